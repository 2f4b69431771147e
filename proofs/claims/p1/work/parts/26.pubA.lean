set_option maxHeartbeats 4000000 in
set_option maxRecDepth 100000 in
theorem k0_X8_column (l : Launch) (D : va_G) (cI cJ : ClassId) (x0 : Nat) (xn : Nat) (xl : Nat) (xt : Nat) (xo : Nat) (xf : Nat) (xs : Nat) (xp : Nat) (xq : Nat) (xr : Nat) (xc : Nat) (t1 : Nat) (p1 : Nat) (p2 : Int32) (p3 : Int32) (r1 : Nat) (r2 : Nat) (r3 : Nat) (r4 : Nat) (r5 : Nat) (r6 : Int32) (r7 : Int32) (r8 : Int32) (bb : Nat) (bo : Nat) (bs : Nat) (z : Int32) (y : Int32) (f : Nat → Int32) (g : Nat → Int32) (q : Nat → Int32) (pq : Nat → Int32) : ctI l yX8_column wsX8_column ({ frames := 5, cells := 0, slots := 0, locals := 300 } : Room) D (tyIJ cI cJ) [.ref x0] [(x0, .inr (8, [.ref xn, .int 0, .ref xl, .ref xt, .ref xo, .ref xf, .ref xs, .ref xp, .ref xq, .ref xr, .ref xc])), (xt, .inr (5, [.ref t1, .int 0])), (xp, .inr (3, [.ref p1, .int p2, .int p3])), (p1, .inl (cI, 64, .inl pq)), (xn, .inl (cI, 64, .inl q)), (xr, .inr (2, [.ref r1, .ref r2, .ref r3, .ref r4, .ref r5, .int r6, .int r7, .int r8, .int y])), (xl, .inr (1, [.ref bb, .ref bo, .ref bs, .int z])), (bo, .inl (cI, 64, .inl f)), (bs, .inl (cI, 64, .inl g)), (bb, .inl (cJ, 8, .inr (.inl (fun _ => (0 : Int64)))))] (fun (r : Int32) (u : va_W) => u = [] ∧ r = 0) := by
  refine ctI.of (cc := cX8_column) (maxL := 2) (ret := (some .int)) (by decide) rfl (Nat.le_of_ble_eq_true rfl) ?_
  intro p e s m below meth c ls A hx hb hr hts hown hml hlocks hname hA hK hN hP hD hS hl
  have hl : lv_has ls 2 [(0, .ref x0)] := hl
  have hown : s.vm.findClass RX8 = some m.cls := hown
  have hi3 : ∀ w ∈ u_ws RX3 TX3 3, w ∈ wsX8_column := by decide +kernel
  have hi8 : ∀ w ∈ u_ws RX8 TX8 11, w ∈ wsX8_column := by decide +kernel
  have fl13 := hts (.fieldLink RX8 13 "PlaneColumn" "size" "I") (by decide +kernel)
  have fl27 := hts (.fieldLink RX8 27 "PlaneColumn" "text" "LPlaneColumn$Signs;") (by decide +kernel)
  have fl51 := hts (.fieldLink RX8 51 "PlaneColumn" "partReader" "LPlaneColumn$PartReader;") (by decide +kernel)
  have fl9 := hts (.fieldLink RX8 9 "PlaneColumn" "numbers" "[I") (by decide +kernel)
  refine lv_aload_n hx hb dX8_column_0 rfl (lv_at hl 0 rfl) ?_
  refine va_get (ci := 8) (v := .ref xp) (C := RX8) (T := TX8) (N := 11) hx hb hts hi8 hown hK hP 0 rfl rfl 7 (by decide) fl51 (fun _ h9 => h9) rfl dX8_column_1 ?_
  refine lv_aload_n hx hb dX8_column_4 rfl (lv_at hl 0 rfl) ?_
  refine va_get (ci := 8) (v := .ref xt) (C := RX8) (T := TX8) (N := 11) hx hb hts hi8 hown hK hP 0 rfl rfl 3 (by decide) fl27 (fun _ h9 => h9) rfl dX8_column_5 ?_
  refine my_goI (wr := [(x0, .inr (8, [.ref xn, .int 0, .ref xl, .ref xt, .ref xo, .ref xf, .ref xs, .ref xp, .ref xq, .ref xr, .ref xc])), (p1, .inl (cI, 64, .inl pq)), (xn, .inl (cI, 64, .inl q)), (xr, .inr (2, [.ref r1, .ref r2, .ref r3, .ref r4, .ref r5, .int r6, .int r7, .int r8, .int y])), (xl, .inr (1, [.ref bb, .ref bo, .ref bs, .int z])), (bo, .inl (cI, 64, .inl f)), (bs, .inl (cI, 64, .inl g)), (bb, .inl (cJ, 8, .inr (.inl (fun _ => (0 : Int64)))))]) hP hD hS hA [2, 1] [0, 3, 4, 5, 6, 7, 8, 9] rfl rfl (by decide) (by decide) (my_cV (As := [.ref xt]) (rest := []) (ci := 3) (wc := [(xp, .inr (3, [.ref p1, .int p2, .int p3])), (xt, .inr (5, [.ref t1, .int 0]))]) ⟨hx, hb, hml, hown, hts⟩ (cwV 1 hts gX8_column_X3_read rfl rfl rfl (by decide +kernel) ⟨Nat.le_of_ble_eq_true rfl, Nat.le_of_ble_eq_true rfl⟩) hN hK hP hD [2, 1] rfl (by decide) rfl 2 rfl rfl rfl rfl hl.1 rfl (Nat.le_of_ble_eq_true rfl) dX8_column_8 ⟨Nat.le_of_ble_eq_true rfl, Nat.le_of_ble_eq_true rfl⟩  ((k0_X3_read l D cI cJ xp p1 xt t1 p2 p3) _)) (fun r u H locs hp hP hD hS => ?_)
  obtain ⟨rfl, rfl⟩ := hp
  have hP : va_P D vwCl [(x0, .inr (8, [.ref xn, .int 0, .ref xl, .ref xt, .ref xo, .ref xf, .ref xs, .ref xp, .ref xq, .ref xr, .ref xc])), (p1, .inl (cI, 64, .inl pq)), (xn, .inl (cI, 64, .inl q)), (xr, .inr (2, [.ref r1, .ref r2, .ref r3, .ref r4, .ref r5, .int r6, .int r7, .int r8, .int y])), (xl, .inr (1, [.ref bb, .ref bo, .ref bs, .int z])), (bo, .inl (cI, 64, .inl f)), (bs, .inl (cI, 64, .inl g)), (bb, .inl (cJ, 8, .inr (.inl (fun _ => (0 : Int64))))), (xp, .inr (3, [.ref p1, .int 0, .int 0])), (xt, .inr (5, [.ref t1, .int 0]))] H := hP
  have hD : va_D A [(x0, .inr (8, [.ref xn, .int 0, .ref xl, .ref xt, .ref xo, .ref xf, .ref xs, .ref xp, .ref xq, .ref xr, .ref xc])), (p1, .inl (cI, 64, .inl pq)), (xn, .inl (cI, 64, .inl q)), (xr, .inr (2, [.ref r1, .ref r2, .ref r3, .ref r4, .ref r5, .int r6, .int r7, .int r8, .int y])), (xl, .inr (1, [.ref bb, .ref bo, .ref bs, .int z])), (bo, .inl (cI, 64, .inl f)), (bs, .inl (cI, 64, .inl g)), (bb, .inl (cJ, 8, .inr (.inl (fun _ => (0 : Int64))))), (xp, .inr (3, [.ref p1, .int 0, .int 0])), (xt, .inr (5, [.ref t1, .int 0]))] := hD
  refine lv_istore_n (lv' := [(1, .int (-1)), (0, .ref x0)]) hx hb dX8_column_11 rfl hl (by decide) rfl (fun ls hl => ?_)
  refine lv_aload_n hx hb dX8_column_12 rfl (lv_at hl 1 rfl) ?_
  refine va_get (ci := 8) (v := .ref xt) (C := RX8) (T := TX8) (N := 11) hx hb hts hi8 hown hK hP 0 rfl rfl 3 (by decide) fl27 (fun _ h9 => h9) rfl dX8_column_13 ?_
  refine lv_iconst (v := 0) hx hb dX8_column_16 (by decide +kernel) ?_
  refine my_goI (wr := [(x0, .inr (8, [.ref xn, .int 0, .ref xl, .ref xt, .ref xo, .ref xf, .ref xs, .ref xp, .ref xq, .ref xr, .ref xc])), (p1, .inl (cI, 64, .inl pq)), (xn, .inl (cI, 64, .inl q)), (xr, .inr (2, [.ref r1, .ref r2, .ref r3, .ref r4, .ref r5, .int r6, .int r7, .int r8, .int y])), (xl, .inr (1, [.ref bb, .ref bo, .ref bs, .int z])), (bo, .inl (cI, 64, .inl f)), (bs, .inl (cI, 64, .inl g)), (bb, .inl (cJ, 8, .inr (.inl (fun _ => (0 : Int64))))), (xp, .inr (3, [.ref p1, .int 0, .int 0]))]) hP hD hS hA [9] [0, 1, 2, 3, 4, 5, 6, 7, 8] rfl rfl (by decide) (by decide) (my_cV (As := [.int 0]) (rest := []) (ci := 5) (wc := [(xt, .inr (5, [.ref t1, .int 0]))]) ⟨hx, hb, hml, hown, hts⟩ (cwV 1 hts gX8_column_X5_keep rfl rfl rfl (by decide +kernel) ⟨Nat.le_of_ble_eq_true rfl, Nat.le_of_ble_eq_true rfl⟩) hN hK hP hD [9] rfl (by decide) rfl 9 rfl rfl rfl rfl hl.1 rfl (Nat.le_of_ble_eq_true rfl) dX8_column_17 ⟨Nat.le_of_ble_eq_true rfl, Nat.le_of_ble_eq_true rfl⟩  ((k00_X5_keep l D cI cJ xt t1) _)) (fun r u H locs hp hP hD hS => ?_)
  obtain ⟨rfl, rfl⟩ := hp
  have hP : va_P D vwCl [(x0, .inr (8, [.ref xn, .int 0, .ref xl, .ref xt, .ref xo, .ref xf, .ref xs, .ref xp, .ref xq, .ref xr, .ref xc])), (p1, .inl (cI, 64, .inl pq)), (xn, .inl (cI, 64, .inl q)), (xr, .inr (2, [.ref r1, .ref r2, .ref r3, .ref r4, .ref r5, .int r6, .int r7, .int r8, .int y])), (xl, .inr (1, [.ref bb, .ref bo, .ref bs, .int z])), (bo, .inl (cI, 64, .inl f)), (bs, .inl (cI, 64, .inl g)), (bb, .inl (cJ, 8, .inr (.inl (fun _ => (0 : Int64))))), (xp, .inr (3, [.ref p1, .int 0, .int 0])), (xt, .inr (5, [.ref t1, .int 0]))] H := hP
  have hD : va_D A [(x0, .inr (8, [.ref xn, .int 0, .ref xl, .ref xt, .ref xo, .ref xf, .ref xs, .ref xp, .ref xq, .ref xr, .ref xc])), (p1, .inl (cI, 64, .inl pq)), (xn, .inl (cI, 64, .inl q)), (xr, .inr (2, [.ref r1, .ref r2, .ref r3, .ref r4, .ref r5, .int r6, .int r7, .int r8, .int y])), (xl, .inr (1, [.ref bb, .ref bo, .ref bs, .int z])), (bo, .inl (cI, 64, .inl f)), (bs, .inl (cI, 64, .inl g)), (bb, .inl (cJ, 8, .inr (.inl (fun _ => (0 : Int64))))), (xp, .inr (3, [.ref p1, .int 0, .int 0])), (xt, .inr (5, [.ref t1, .int 0]))] := hD
  refine lv_pop hx hb dX8_column_20 rfl ?_
  refine lv_iload_n hx hb dX8_column_21 rfl (lv_at hl 0 rfl) ?_
  refine lv_iconst (v := (-1)) hx hb dX8_column_22 (by decide +kernel) ?_
  refine lv_icmp_eq (tgt := 30) hx hb dX8_column_23 (by decide) (fun c23 => ?_) (fun c23 => ?_)
  ·
    refine lv_aload_n hx hb dX8_column_30 rfl (lv_at hl 1 rfl) ?_
    refine lv_aload_n hx hb dX8_column_31 rfl (lv_at hl 1 rfl) ?_
    refine va_get (ci := 8) (v := .ref xp) (C := RX8) (T := TX8) (N := 11) hx hb hts hi8 hown hK hP 0 rfl rfl 7 (by decide) fl51 (fun _ h9 => h9) rfl dX8_column_32 ?_
    refine va_getN (ci := 3) (v := .int 0) (C := RX3) (T := TX3) (N := 3) hx hb hts hi3 hown hK hP 8 rfl rfl 1 (by decide) (nw_f_RX8_84 hN) (fun _ h9 => h9) rfl dX8_column_35 ?_
    refine va_put (ci := 8) (v := .int 0) (ty := (.int)) (C := RX8) (T := TX8) (N := 11) hx hb hts hi8 tyX8 tyX8_ok nmX8 hown hK hP hD hS 0 rfl rfl 1 (by decide) fl13 (fun _ h9 => h9) rfl (by decide +kernel) rfl rfl (Nat.le_of_ble_eq_true rfl) dX8_column_38 (fun H locs hP hD hS => ?_)
    have hP : va_P D vwCl [(x0, .inr (8, [.ref xn, .int 0, .ref xl, .ref xt, .ref xo, .ref xf, .ref xs, .ref xp, .ref xq, .ref xr, .ref xc])), (p1, .inl (cI, 64, .inl pq)), (xn, .inl (cI, 64, .inl q)), (xr, .inr (2, [.ref r1, .ref r2, .ref r3, .ref r4, .ref r5, .int r6, .int r7, .int r8, .int y])), (xl, .inr (1, [.ref bb, .ref bo, .ref bs, .int z])), (bo, .inl (cI, 64, .inl f)), (bs, .inl (cI, 64, .inl g)), (bb, .inl (cJ, 8, .inr (.inl (fun _ => (0 : Int64))))), (xp, .inr (3, [.ref p1, .int 0, .int 0])), (xt, .inr (5, [.ref t1, .int 0]))] H := hP
    have hD : va_D A [(x0, .inr (8, [.ref xn, .int 0, .ref xl, .ref xt, .ref xo, .ref xf, .ref xs, .ref xp, .ref xq, .ref xr, .ref xc])), (p1, .inl (cI, 64, .inl pq)), (xn, .inl (cI, 64, .inl q)), (xr, .inr (2, [.ref r1, .ref r2, .ref r3, .ref r4, .ref r5, .int r6, .int r7, .int r8, .int y])), (xl, .inr (1, [.ref bb, .ref bo, .ref bs, .int z])), (bo, .inl (cI, 64, .inl f)), (bs, .inl (cI, 64, .inl g)), (bb, .inl (cJ, 8, .inr (.inl (fun _ => (0 : Int64))))), (xp, .inr (3, [.ref p1, .int 0, .int 0])), (xt, .inr (5, [.ref t1, .int 0]))] := hD
    refine lv_aload_n hx hb dX8_column_41 rfl (lv_at hl 1 rfl) ?_
    refine va_get (ci := 8) (v := .ref xp) (C := RX8) (T := TX8) (N := 11) hx hb hts hi8 hown hK hP 0 rfl rfl 7 (by decide) fl51 (fun _ h9 => h9) rfl dX8_column_42 ?_
    refine va_getN (ci := 3) (v := .ref p1) (C := RX3) (T := TX3) (N := 3) hx hb hts hi3 hown hK hP 8 rfl rfl 0 (by decide) (nw_f_RX8_85 hN) (fun _ h9 => h9) rfl dX8_column_45 ?_
    refine lv_iconst (v := 0) hx hb dX8_column_48 (by decide +kernel) ?_
    refine lv_aload_n hx hb dX8_column_49 rfl (lv_at hl 1 rfl) ?_
    refine va_get (ci := 8) (v := .ref xn) (C := RX8) (T := TX8) (N := 11) hx hb hts hi8 hown hK hP 0 rfl rfl 0 (by decide) fl9 (fun _ h9 => h9) rfl dX8_column_50 ?_
    refine lv_iconst (v := 0) hx hb dX8_column_53 (by decide +kernel) ?_
    refine lv_aload_n hx hb dX8_column_54 rfl (lv_at hl 1 rfl) ?_
    refine va_get (ci := 8) (v := .int 0) (C := RX8) (T := TX8) (N := 11) hx hb hts hi8 hown hK hP 0 rfl rfl 1 (by decide) fl13 (fun _ h9 => h9) rfl dX8_column_55 ?_
    refine va_copyi hx hb (hml.trans hl.1.symm) hown (hts (.methodLink RX8 86 arraycopyName) (by decide +kernel)) (hts (.native arraycopyName) (by decide +kernel)) (hts (.static arraycopyName) (by decide +kernel)) (hts (.initialized "java/lang/System") (by decide +kernel)) hK hP hD hS 1 2 0 0 rfl rfl rfl rfl rfl (by decide +kernel) (by decide +kernel) (by decide +kernel) (by decide +kernel) (by decide +kernel) (fun _ _ => rfl) (Nat.le_of_ble_eq_true rfl) (Nat.le_of_ble_eq_true rfl) dX8_column_58 (fun H locs hP hD hS => ?_)
    have eC : va_cpy pq q (0 : Int32).toNatClampNeg (0 : Int32).toNatClampNeg (0 : Int32).toNatClampNeg = q := my_cpy0 _ _ _ _ (by decide +kernel)
    rw [eC] at hP hD
    have hP : va_P D vwCl [(x0, .inr (8, [.ref xn, .int 0, .ref xl, .ref xt, .ref xo, .ref xf, .ref xs, .ref xp, .ref xq, .ref xr, .ref xc])), (p1, .inl (cI, 64, .inl pq)), (xn, .inl (cI, 64, .inl q)), (xr, .inr (2, [.ref r1, .ref r2, .ref r3, .ref r4, .ref r5, .int r6, .int r7, .int r8, .int y])), (xl, .inr (1, [.ref bb, .ref bo, .ref bs, .int z])), (bo, .inl (cI, 64, .inl f)), (bs, .inl (cI, 64, .inl g)), (bb, .inl (cJ, 8, .inr (.inl (fun _ => (0 : Int64))))), (xp, .inr (3, [.ref p1, .int 0, .int 0])), (xt, .inr (5, [.ref t1, .int 0]))] H := hP
    have hD : va_D A [(x0, .inr (8, [.ref xn, .int 0, .ref xl, .ref xt, .ref xo, .ref xf, .ref xs, .ref xp, .ref xq, .ref xr, .ref xc])), (p1, .inl (cI, 64, .inl pq)), (xn, .inl (cI, 64, .inl q)), (xr, .inr (2, [.ref r1, .ref r2, .ref r3, .ref r4, .ref r5, .int r6, .int r7, .int r8, .int y])), (xl, .inr (1, [.ref bb, .ref bo, .ref bs, .int z])), (bo, .inl (cI, 64, .inl f)), (bs, .inl (cI, 64, .inl g)), (bb, .inl (cJ, 8, .inr (.inl (fun _ => (0 : Int64))))), (xp, .inr (3, [.ref p1, .int 0, .int 0])), (xt, .inr (5, [.ref t1, .int 0]))] := hD
    refine lv_aload_n hx hb dX8_column_61 rfl (lv_at hl 1 rfl) ?_
    refine my_goI (wr := [(p1, .inl (cI, 64, .inl pq)), (xn, .inl (cI, 64, .inl q)), (xp, .inr (3, [.ref p1, .int 0, .int 0])), (xt, .inr (5, [.ref t1, .int 0]))]) hP hD hS hA [0, 3, 4, 5, 6, 7] [1, 2, 8, 9] rfl rfl (by decide) (by decide) (my_cV (As := []) (rest := []) (ci := 8) (wc := [(x0, .inr (8, [.ref xn, .int 0, .ref xl, .ref xt, .ref xo, .ref xf, .ref xs, .ref xp, .ref xq, .ref xr, .ref xc])), (xr, .inr (2, [.ref r1, .ref r2, .ref r3, .ref r4, .ref r5, .int r6, .int r7, .int r8, .int y])), (xl, .inr (1, [.ref bb, .ref bo, .ref bs, .int z])), (bo, .inl (cI, 64, .inl f)), (bs, .inl (cI, 64, .inl g)), (bb, .inl (cJ, 8, .inr (.inl (fun _ => (0 : Int64)))))]) ⟨hx, hb, hml, hown, hts⟩ (cwV 0 hts gX8_column_X8_settle rfl rfl rfl (by decide +kernel) ⟨Nat.le_of_ble_eq_true rfl, Nat.le_of_ble_eq_true rfl⟩) hN hK hP hD [0, 3, 4, 5, 6, 7] rfl (by decide) rfl 0 rfl rfl rfl rfl hl.1 rfl (Nat.le_of_ble_eq_true rfl) dX8_column_62 ⟨Nat.le_of_ble_eq_true rfl, Nat.le_of_ble_eq_true rfl⟩  ((k0_X8_settle l D cI cJ x0 xn xl xt xo xf xs xp xq xr xc r1 r2 r3 r4 r5 r6 r7 r8 bb bo bs z y f g) _)) (fun r u H locs hp hP hD hS => ?_)
    obtain ⟨rfl, rfl⟩ := hp
    have hP : va_P D vwCl [(p1, .inl (cI, 64, .inl pq)), (xn, .inl (cI, 64, .inl q)), (xp, .inr (3, [.ref p1, .int 0, .int 0])), (xt, .inr (5, [.ref t1, .int 0])), (x0, .inr (8, [.ref xn, .int 0, .ref xl, .ref xt, .ref xo, .ref xf, .ref xs, .ref xp, .ref xq, .ref xr, .ref xc]))] H := hP
    have hD : va_D A [(p1, .inl (cI, 64, .inl pq)), (xn, .inl (cI, 64, .inl q)), (xp, .inr (3, [.ref p1, .int 0, .int 0])), (xt, .inr (5, [.ref t1, .int 0])), (x0, .inr (8, [.ref xn, .int 0, .ref xl, .ref xt, .ref xo, .ref xf, .ref xs, .ref xp, .ref xq, .ref xr, .ref xc]))] := hD
    refine lv_pop hx hb dX8_column_65 rfl ?_
    refine lv_aload_n hx hb dX8_column_66 rfl (lv_at hl 1 rfl) ?_
    refine va_get (ci := 8) (v := .int 0) (C := RX8) (T := TX8) (N := 11) hx hb hts hi8 hown hK hP 4 rfl rfl 1 (by decide) fl13 (fun _ h9 => h9) rfl dX8_column_67 ?_
    exact my_retI hx hb hr hlocks hK hS [] (hP.sub [] rfl) (hD.sub [] (by decide) rfl) (⟨rfl, rfl⟩) dX8_column_70
  ·
    exact absurd c23 (by decide +kernel)
set_option maxHeartbeats 4000000 in
set_option maxRecDepth 100000 in
theorem k0_X8_planes (l : Launch) (D : va_G) (cI cJ : ClassId) (x0 : Nat) (xn : Nat) (xl : Nat) (xt : Nat) (xo : Nat) (xf : Nat) (xs : Nat) (xp : Nat) (xq : Nat) (xr : Nat) (xc : Nat) (t1 : Nat) (q1 : Nat) (q2 : Int32) : ctI l yX8_planes wsX8_planes ({ frames := 3, cells := 0, slots := 0, locals := 180 } : Room) D (tyIJ cI cJ) [.ref x0] [(x0, .inr (8, [.ref xn, .int 0, .ref xl, .ref xt, .ref xo, .ref xf, .ref xs, .ref xp, .ref xq, .ref xr, .ref xc])), (xt, .inr (5, [.ref t1, .int 0])), (xq, .inr (4, [.ref q1, .int q2])), (q1, .inl (cJ, 8, .inr (.inl (fun _ => (0 : Int64)))))] (fun (r : Int32) (u : va_W) => u = [] ∧ r = (-1)) := by
  refine ctI.of (cc := cX8_planes) (maxL := 3) (ret := (some .int)) (by decide) rfl (Nat.le_of_ble_eq_true rfl) ?_
  intro p e s m below meth c ls A hx hb hr hts hown hml hlocks hname hA hK hN hP hD hS hl
  have hl : lv_has ls 3 [(0, .ref x0)] := hl
  have hown : s.vm.findClass RX8 = some m.cls := hown
  have hi8 : ∀ w ∈ u_ws RX8 TX8 11, w ∈ wsX8_planes := by decide +kernel
  have fl27 := hts (.fieldLink RX8 27 "PlaneColumn" "text" "LPlaneColumn$Signs;") (by decide +kernel)
  have fl58 := hts (.fieldLink RX8 58 "PlaneColumn" "planeReader" "LPlaneColumn$PlaneReader;") (by decide +kernel)
  refine lv_aload_n hx hb dX8_planes_0 rfl (lv_at hl 0 rfl) ?_
  refine va_get (ci := 8) (v := .ref xq) (C := RX8) (T := TX8) (N := 11) hx hb hts hi8 hown hK hP 0 rfl rfl 8 (by decide) fl58 (fun _ h9 => h9) rfl dX8_planes_1 ?_
  refine lv_aload_n hx hb dX8_planes_4 rfl (lv_at hl 0 rfl) ?_
  refine va_get (ci := 8) (v := .ref xt) (C := RX8) (T := TX8) (N := 11) hx hb hts hi8 hown hK hP 0 rfl rfl 3 (by decide) fl27 (fun _ h9 => h9) rfl dX8_planes_5 ?_
  refine my_goI (wr := [(x0, .inr (8, [.ref xn, .int 0, .ref xl, .ref xt, .ref xo, .ref xf, .ref xs, .ref xp, .ref xq, .ref xr, .ref xc]))]) hP hD hS hA [2, 3, 1] [0] rfl rfl (by decide) (by decide) (my_cV (As := [.ref xt]) (rest := []) (ci := 4) (wc := [(xq, .inr (4, [.ref q1, .int q2])), (q1, .inl (cJ, 8, .inr (.inl (fun _ => (0 : Int64))))), (xt, .inr (5, [.ref t1, .int 0]))]) ⟨hx, hb, hml, hown, hts⟩ (cwV 1 hts gX8_planes_X4_read rfl rfl rfl (by decide +kernel) ⟨Nat.le_of_ble_eq_true rfl, Nat.le_of_ble_eq_true rfl⟩) hN hK hP hD [2, 3, 1] rfl (by decide) rfl 2 rfl rfl rfl rfl hl.1 rfl (Nat.le_of_ble_eq_true rfl) dX8_planes_8 ⟨Nat.le_of_ble_eq_true rfl, Nat.le_of_ble_eq_true rfl⟩  ((k0_X4_read l D cI cJ xq q1 xt t1 q2) _)) (fun r u H locs hp hP hD hS => ?_)
  obtain ⟨rfl, rfl⟩ := hp
  have hP : va_P D vwCl [(x0, .inr (8, [.ref xn, .int 0, .ref xl, .ref xt, .ref xo, .ref xf, .ref xs, .ref xp, .ref xq, .ref xr, .ref xc])), (xt, .inr (5, [.ref t1, .int 0]))] H := hP
  have hD : va_D A [(x0, .inr (8, [.ref xn, .int 0, .ref xl, .ref xt, .ref xo, .ref xf, .ref xs, .ref xp, .ref xq, .ref xr, .ref xc])), (xt, .inr (5, [.ref t1, .int 0]))] := hD
  refine lv_istore_n (lv' := [(1, .int 0), (0, .ref x0)]) hx hb dX8_planes_11 rfl hl (by decide) rfl (fun ls hl => ?_)
  refine lv_aload_n hx hb dX8_planes_12 rfl (lv_at hl 1 rfl) ?_
  refine va_get (ci := 8) (v := .ref xt) (C := RX8) (T := TX8) (N := 11) hx hb hts hi8 hown hK hP 0 rfl rfl 3 (by decide) fl27 (fun _ h9 => h9) rfl dX8_planes_13 ?_
  refine lv_iconst (v := 0) hx hb dX8_planes_16 (by decide +kernel) ?_
  refine my_goI (wr := [(x0, .inr (8, [.ref xn, .int 0, .ref xl, .ref xt, .ref xo, .ref xf, .ref xs, .ref xp, .ref xq, .ref xr, .ref xc]))]) hP hD hS hA [1] [0] rfl rfl (by decide) (by decide) (my_cV (As := [.int 0]) (rest := []) (ci := 5) (wc := [(xt, .inr (5, [.ref t1, .int 0]))]) ⟨hx, hb, hml, hown, hts⟩ (cwV 1 hts gX8_planes_X5_keep rfl rfl rfl (by decide +kernel) ⟨Nat.le_of_ble_eq_true rfl, Nat.le_of_ble_eq_true rfl⟩) hN hK hP hD [1] rfl (by decide) rfl 1 rfl rfl rfl rfl hl.1 rfl (Nat.le_of_ble_eq_true rfl) dX8_planes_17 ⟨Nat.le_of_ble_eq_true rfl, Nat.le_of_ble_eq_true rfl⟩  ((k00_X5_keep l D cI cJ xt t1) _)) (fun r u H locs hp hP hD hS => ?_)
  obtain ⟨rfl, rfl⟩ := hp
  have hP : va_P D vwCl [(x0, .inr (8, [.ref xn, .int 0, .ref xl, .ref xt, .ref xo, .ref xf, .ref xs, .ref xp, .ref xq, .ref xr, .ref xc])), (xt, .inr (5, [.ref t1, .int 0]))] H := hP
  have hD : va_D A [(x0, .inr (8, [.ref xn, .int 0, .ref xl, .ref xt, .ref xo, .ref xf, .ref xs, .ref xp, .ref xq, .ref xr, .ref xc])), (xt, .inr (5, [.ref t1, .int 0]))] := hD
  refine lv_pop hx hb dX8_planes_20 rfl ?_
  refine lv_iload_n hx hb dX8_planes_21 rfl (lv_at hl 0 rfl) ?_
  refine lv_iconst (v := (-1)) hx hb dX8_planes_22 (by decide +kernel) ?_
  refine lv_icmp_eq (tgt := 30) hx hb dX8_planes_23 (by decide) (fun c23 => ?_) (fun c23 => ?_)
  ·
    exact absurd c23 (by decide +kernel)
  ·
    refine lv_iconst (v := (-1)) hx hb dX8_planes_26 (by decide +kernel) ?_
    refine lv_iload_n hx hb dX8_planes_27 rfl (lv_at hl 0 rfl) ?_
    refine lv_isub hx hb dX8_planes_28 ?_
    refine my_eqi (y := (-1)) (by decide +kernel) ?_
    exact my_retI hx hb hr hlocks hK hS [] (hP.sub [] rfl) (hD.sub [] (by decide) rfl) (⟨rfl, rfl⟩) dX8_planes_29
set_option maxHeartbeats 4000000 in
set_option maxRecDepth 100000 in
theorem k0_X8_adds (l : Launch) (D : va_G) (cI cJ : ClassId) (x0 : Nat) (xn : Nat) (xl : Nat) (xt : Nat) (xo : Nat) (xf : Nat) (xs : Nat) (xp : Nat) (xq : Nat) (xr : Nat) (xc : Nat) (r1 : Nat) (r2 : Nat) (r3 : Nat) (r4 : Nat) (r5 : Nat) (r6 : Int32) (r7 : Int32) (r8 : Int32) (bb : Nat) (bo : Nat) (bs : Nat) (z : Int32) (y : Int32) (f : Nat → Int32) (g : Nat → Int32) (q : Nat → Int32) (v9 : Int32) : ctI l yX8_adds wsX8_adds ({ frames := 5, cells := 0, slots := 0, locals := 300 } : Room) D (tyIJ cI cJ) [.ref x0, .int v9] [(x0, .inr (8, [.ref xn, .int 0, .ref xl, .ref xt, .ref xo, .ref xf, .ref xs, .ref xp, .ref xq, .ref xr, .ref xc])), (xn, .inl (cI, 64, .inl q)), (xr, .inr (2, [.ref r1, .ref r2, .ref r3, .ref r4, .ref r5, .int r6, .int r7, .int r8, .int y])), (xl, .inr (1, [.ref bb, .ref bo, .ref bs, .int z])), (bo, .inl (cI, 64, .inl f)), (bs, .inl (cI, 64, .inl g)), (bb, .inl (cJ, 8, .inr (.inl (fun _ => (0 : Int64)))))] (fun (r : Int32) (u : va_W) => (u = [] ∧ r = 1 ∧ 0 ≤ v9.toInt ∧ v9.toInt ≤ 255) ∨ (u = [] ∧ r = (-1) ∧ (v9.toInt < 0 ∨ 255 < v9.toInt))) := by
  refine ctI.of (cc := cX8_adds) (maxL := 2) (ret := (some .int)) (by decide) rfl (Nat.le_of_ble_eq_true rfl) ?_
  intro p e s m below meth c ls A hx hb hr hts hown hml hlocks hname hA hK hN hP hD hS hl
  have hl : lv_has ls 2 [(0, .ref x0), (1, .int v9)] := hl
  have hown : s.vm.findClass RX8 = some m.cls := hown
  have hi8 : ∀ w ∈ u_ws RX8 TX8 11, w ∈ wsX8_adds := by decide +kernel
  have fl13 := hts (.fieldLink RX8 13 "PlaneColumn" "size" "I") (by decide +kernel)
  have fl9 := hts (.fieldLink RX8 9 "PlaneColumn" "numbers" "[I") (by decide +kernel)
  refine lv_iload_n hx hb dX8_adds_0 rfl (lv_at hl 1 rfl) ?_
  refine my_gpI (my_pS (As := [.int v9]) (rest := []) ⟨hx, hb, hml, hown, hts⟩ (va_cwS 1 hts gX8_adds_X8_isNumber rfl rfl rfl (by decide +kernel) ⟨Nat.le_of_ble_eq_true rfl, Nat.le_of_ble_eq_true rfl⟩) hN hK hP [] rfl rfl hl.1 rfl (Nat.le_of_ble_eq_true rfl) dX8_adds_1 ⟨Nat.le_of_ble_eq_true rfl, Nat.le_of_ble_eq_true rfl⟩  (k_X8_isNumber l D cI cJ v9)) (fun r hp => ?_)
  rcases hp with ⟨rfl, hgv_1, hlv_2⟩ | ⟨rfl, ho_3⟩
  ·
    refine lv_if_ne (tgt := 9) hx hb dX8_adds_4 (by decide) (fun c4 => ?_) (fun c4 => ?_)
    ·
      refine lv_aload_n hx hb dX8_adds_9 rfl (lv_at hl 0 rfl) ?_
      refine va_get (ci := 8) (v := .int 0) (C := RX8) (T := TX8) (N := 11) hx hb hts hi8 hown hK hP 0 rfl rfl 1 (by decide) fl13 (fun _ h9 => h9) rfl dX8_adds_10 ?_
      refine lv_bipush (v := 64) hx hb dX8_adds_13 (by decide +kernel) ?_
      refine lv_icmp_lt (tgt := 21) hx hb dX8_adds_15 (by decide) (fun c15 => ?_) (fun c15 => ?_)
      ·
        refine lv_aload_n hx hb dX8_adds_21 rfl (lv_at hl 0 rfl) ?_
        refine va_get (ci := 8) (v := .ref xn) (C := RX8) (T := TX8) (N := 11) hx hb hts hi8 hown hK hP 0 rfl rfl 0 (by decide) fl9 (fun _ h9 => h9) rfl dX8_adds_22 ?_
        refine lv_aload_n hx hb dX8_adds_25 rfl (lv_at hl 0 rfl) ?_
        refine va_get (ci := 8) (v := .int 0) (C := RX8) (T := TX8) (N := 11) hx hb hts hi8 hown hK hP 0 rfl rfl 1 (by decide) fl13 (fun _ h9 => h9) rfl dX8_adds_26 ?_
        refine lv_iload_n hx hb dX8_adds_29 rfl (lv_at hl 1 rfl) ?_
        refine va_iast hx hb hK hP hD hS 1 0 rfl rfl (vp_in_nI (n := 0) (by omega) (by omega)) dX8_adds_30 (fun H locs hP hD hS => ?_)
        have eU : upd q (0 : Int32).toNatClampNeg v9 = upd q 0 v9 := by rw [show (0 : Int32).toNatClampNeg = 0 from by decide +kernel]
        rw [eU] at hP hD
        have hP : va_P D vwCl [(x0, .inr (8, [.ref xn, .int 0, .ref xl, .ref xt, .ref xo, .ref xf, .ref xs, .ref xp, .ref xq, .ref xr, .ref xc])), (xn, .inl (cI, 64, .inl (upd q 0 v9))), (xr, .inr (2, [.ref r1, .ref r2, .ref r3, .ref r4, .ref r5, .int r6, .int r7, .int r8, .int y])), (xl, .inr (1, [.ref bb, .ref bo, .ref bs, .int z])), (bo, .inl (cI, 64, .inl f)), (bs, .inl (cI, 64, .inl g)), (bb, .inl (cJ, 8, .inr (.inl (fun _ => (0 : Int64)))))] H := hP
        have hD : va_D A [(x0, .inr (8, [.ref xn, .int 0, .ref xl, .ref xt, .ref xo, .ref xf, .ref xs, .ref xp, .ref xq, .ref xr, .ref xc])), (xn, .inl (cI, 64, .inl (upd q 0 v9))), (xr, .inr (2, [.ref r1, .ref r2, .ref r3, .ref r4, .ref r5, .int r6, .int r7, .int r8, .int y])), (xl, .inr (1, [.ref bb, .ref bo, .ref bs, .int z])), (bo, .inl (cI, 64, .inl f)), (bs, .inl (cI, 64, .inl g)), (bb, .inl (cJ, 8, .inr (.inl (fun _ => (0 : Int64)))))] := hD
        refine lv_aload_n hx hb dX8_adds_31 rfl (lv_at hl 0 rfl) ?_
        refine lv_dup hx hb dX8_adds_32 rfl ?_
        refine va_get (ci := 8) (v := .int 0) (C := RX8) (T := TX8) (N := 11) hx hb hts hi8 hown hK hP 0 rfl rfl 1 (by decide) fl13 (fun _ h9 => h9) rfl dX8_adds_33 ?_
        refine lv_iconst (v := 1) hx hb dX8_adds_36 (by decide +kernel) ?_
        refine lv_iadd hx hb dX8_adds_37 ?_
        refine my_eqi (y := 1) (by decide +kernel) ?_
        refine va_put (ci := 8) (v := .int 1) (ty := (.int)) (C := RX8) (T := TX8) (N := 11) hx hb hts hi8 tyX8 tyX8_ok nmX8 hown hK hP hD hS 0 rfl rfl 1 (by decide) fl13 (fun _ h9 => h9) rfl (by decide +kernel) rfl rfl (Nat.le_of_ble_eq_true rfl) dX8_adds_38 (fun H locs hP hD hS => ?_)
        have hP : va_P D vwCl [(x0, .inr (8, [.ref xn, .int 1, .ref xl, .ref xt, .ref xo, .ref xf, .ref xs, .ref xp, .ref xq, .ref xr, .ref xc])), (xn, .inl (cI, 64, .inl (upd q 0 v9))), (xr, .inr (2, [.ref r1, .ref r2, .ref r3, .ref r4, .ref r5, .int r6, .int r7, .int r8, .int y])), (xl, .inr (1, [.ref bb, .ref bo, .ref bs, .int z])), (bo, .inl (cI, 64, .inl f)), (bs, .inl (cI, 64, .inl g)), (bb, .inl (cJ, 8, .inr (.inl (fun _ => (0 : Int64)))))] H := hP
        have hD : va_D A [(x0, .inr (8, [.ref xn, .int 1, .ref xl, .ref xt, .ref xo, .ref xf, .ref xs, .ref xp, .ref xq, .ref xr, .ref xc])), (xn, .inl (cI, 64, .inl (upd q 0 v9))), (xr, .inr (2, [.ref r1, .ref r2, .ref r3, .ref r4, .ref r5, .int r6, .int r7, .int r8, .int y])), (xl, .inr (1, [.ref bb, .ref bo, .ref bs, .int z])), (bo, .inl (cI, 64, .inl f)), (bs, .inl (cI, 64, .inl g)), (bb, .inl (cJ, 8, .inr (.inl (fun _ => (0 : Int64)))))] := hD
        refine lv_aload_n hx hb dX8_adds_41 rfl (lv_at hl 0 rfl) ?_
        refine my_goI (wr := []) hP hD hS hA [0, 2, 3, 4, 5, 6, 1] [] rfl rfl (by decide) (by decide) (my_cV (As := []) (rest := []) (ci := 8) (wc := [(x0, .inr (8, [.ref xn, .int 1, .ref xl, .ref xt, .ref xo, .ref xf, .ref xs, .ref xp, .ref xq, .ref xr, .ref xc])), (xr, .inr (2, [.ref r1, .ref r2, .ref r3, .ref r4, .ref r5, .int r6, .int r7, .int r8, .int y])), (xl, .inr (1, [.ref bb, .ref bo, .ref bs, .int z])), (bo, .inl (cI, 64, .inl f)), (bs, .inl (cI, 64, .inl g)), (bb, .inl (cJ, 8, .inr (.inl (fun _ => (0 : Int64))))), (xn, .inl (cI, 64, .inl (upd q 0 v9)))]) ⟨hx, hb, hml, hown, hts⟩ (cwV 0 hts gX8_adds_X8_settle rfl rfl rfl (by decide +kernel) ⟨Nat.le_of_ble_eq_true rfl, Nat.le_of_ble_eq_true rfl⟩) hN hK hP hD [0, 2, 3, 4, 5, 6, 1] rfl (by decide) rfl 0 rfl rfl rfl rfl hl.1 rfl (Nat.le_of_ble_eq_true rfl) dX8_adds_42 ⟨Nat.le_of_ble_eq_true rfl, Nat.le_of_ble_eq_true rfl⟩  ((k1_X8_settle l D cI cJ x0 xn xl xt xo xf xs xp xq xr xc r1 r2 r3 r4 r5 r6 r7 r8 bb bo bs z y f g (upd q 0 v9) (fun _ => (0 : Int64))) _)) (fun r u H locs hp hP hD hS => ?_)
        obtain rfl := hp
        obtain ⟨r_4, rfl⟩ : ∃ z, z = r := ⟨_, rfl⟩
        have hP : va_P D vwCl [(x0, .inr (8, [.ref xn, .int 1, .ref xl, .ref xt, .ref xo, .ref xf, .ref xs, .ref xp, .ref xq, .ref xr, .ref xc]))] H := hP
        have hD : va_D A [(x0, .inr (8, [.ref xn, .int 1, .ref xl, .ref xt, .ref xo, .ref xf, .ref xs, .ref xp, .ref xq, .ref xr, .ref xc]))] := hD
        refine lv_pop hx hb dX8_adds_45 rfl ?_
        refine lv_aload_n hx hb dX8_adds_46 rfl (lv_at hl 0 rfl) ?_
        refine va_get (ci := 8) (v := .int 1) (C := RX8) (T := TX8) (N := 11) hx hb hts hi8 hown hK hP 0 rfl rfl 1 (by decide) fl13 (fun _ h9 => h9) rfl dX8_adds_47 ?_
        exact my_retI hx hb hr hlocks hK hS [] (hP.sub [] rfl) (hD.sub [] (by decide) rfl) (Or.inl ⟨rfl, rfl, (by first | omega | assumption | trivial | decide +kernel), (by first | omega | assumption | trivial | decide +kernel)⟩) dX8_adds_50
      ·
        exact absurd c15 (by decide +kernel)
    ·
      exact absurd c4 (by decide +kernel)
  ·
    refine lv_if_ne (tgt := 9) hx hb dX8_adds_4 (by decide) (fun c4 => ?_) (fun c4 => ?_)
    ·
      exact absurd c4 (by decide +kernel)
    ·
      refine lv_iconst (v := (-1)) hx hb dX8_adds_7 (by decide +kernel) ?_
      exact my_retI hx hb hr hlocks hK hS [] (hP.sub [] rfl) (hD.sub [] (by decide) rfl) (Or.inr (⟨rfl, rfl, (by first | omega | assumption | trivial | decide +kernel)⟩)) dX8_adds_8
set_option maxHeartbeats 4000000 in
set_option maxRecDepth 100000 in
theorem k0_X8_puts (l : Launch) (D : va_G) (cI cJ : ClassId) (x0 : Nat) (xn : Nat) (xl : Nat) (xt : Nat) (xo : Nat) (xf : Nat) (xs : Nat) (xp : Nat) (xq : Nat) (xr : Nat) (xc : Nat) (p9 : Int32) (v9 : Int32) : ctI l yX8_puts wsX8_puts ({ frames := 1, cells := 0, slots := 0, locals := 60 } : Room) D (tyIJ cI cJ) [.ref x0, .int p9, .int v9] [(x0, .inr (8, [.ref xn, .int 0, .ref xl, .ref xt, .ref xo, .ref xf, .ref xs, .ref xp, .ref xq, .ref xr, .ref xc]))] (fun (r : Int32) (u : va_W) => (u = [] ∧ r = (-2) ∧ 0 ≤ v9.toInt ∧ v9.toInt ≤ 255) ∨ (u = [] ∧ r = (-1) ∧ (v9.toInt < 0 ∨ 255 < v9.toInt))) := by
  refine ctI.of (cc := cX8_puts) (maxL := 4) (ret := (some .int)) (by decide) rfl (Nat.le_of_ble_eq_true rfl) ?_
  intro p e s m below meth c ls A hx hb hr hts hown hml hlocks hname hA hK hN hP hD hS hl
  have hl : lv_has ls 4 [(0, .ref x0), (1, .int p9), (2, .int v9)] := hl
  have hown : s.vm.findClass RX8 = some m.cls := hown
  refine lv_iload_n hx hb dX8_puts_0 rfl (lv_at hl 2 rfl) ?_
  refine my_gpI (my_pS (As := [.int v9]) (rest := []) ⟨hx, hb, hml, hown, hts⟩ (va_cwS 1 hts gX8_puts_X8_isNumber rfl rfl rfl (by decide +kernel) ⟨Nat.le_of_ble_eq_true rfl, Nat.le_of_ble_eq_true rfl⟩) hN hK hP [] rfl rfl hl.1 rfl (Nat.le_of_ble_eq_true rfl) dX8_puts_1 ⟨Nat.le_of_ble_eq_true rfl, Nat.le_of_ble_eq_true rfl⟩  (k_X8_isNumber l D cI cJ v9)) (fun r hp => ?_)
  rcases hp with ⟨rfl, hgv_1, hlv_2⟩ | ⟨rfl, ho_3⟩
  ·
    refine lv_if_ne (tgt := 9) hx hb dX8_puts_4 (by decide) (fun c4 => ?_) (fun c4 => ?_)
    ·
      refine lv_aload_n hx hb dX8_puts_9 rfl (lv_at hl 0 rfl) ?_
      refine lv_iload_n hx hb dX8_puts_10 rfl (lv_at hl 1 rfl) ?_
      refine my_gpI (my_pV (As := [.int p9]) (rest := []) (ci := 8) ⟨hx, hb, hml, hown, hts⟩ (cwV 1 hts gX8_puts_X8_isPlace rfl rfl rfl (by decide +kernel) ⟨Nat.le_of_ble_eq_true rfl, Nat.le_of_ble_eq_true rfl⟩) hN hK hP [0] rfl 0 rfl rfl rfl rfl hl.1 rfl (Nat.le_of_ble_eq_true rfl) dX8_puts_11 ⟨Nat.le_of_ble_eq_true rfl, Nat.le_of_ble_eq_true rfl⟩  (k0_X8_isPlace l D cI cJ x0 xn xl xt xo xf xs xp xq xr xc p9)) (fun r hp => ?_)
      obtain rfl := hp
      refine lv_if_ne (tgt := 20) hx hb dX8_puts_14 (by decide) (fun c14 => ?_) (fun c14 => ?_)
      ·
        exact absurd c14 (by decide +kernel)
      ·
        refine lv_bipush (v := (-2)) hx hb dX8_puts_17 (by decide +kernel) ?_
        exact my_retI hx hb hr hlocks hK hS [] (hP.sub [] rfl) (hD.sub [] (by decide) rfl) (Or.inl ⟨rfl, rfl, (by first | omega | assumption | trivial | decide +kernel), (by first | omega | assumption | trivial | decide +kernel)⟩) dX8_puts_19
    ·
      exact absurd c4 (by decide +kernel)
  ·
    refine lv_if_ne (tgt := 9) hx hb dX8_puts_4 (by decide) (fun c4 => ?_) (fun c4 => ?_)
    ·
      exact absurd c4 (by decide +kernel)
    ·
      refine lv_iconst (v := (-1)) hx hb dX8_puts_7 (by decide +kernel) ?_
      exact my_retI hx hb hr hlocks hK hS [] (hP.sub [] rfl) (hD.sub [] (by decide) rfl) (Or.inr (⟨rfl, rfl, (by first | omega | assumption | trivial | decide +kernel)⟩)) dX8_puts_8
set_option maxHeartbeats 4000000 in
set_option maxRecDepth 100000 in
theorem k0_X8_cuts (l : Launch) (D : va_G) (cI cJ : ClassId) (x0 : Nat) (xn : Nat) (xl : Nat) (xt : Nat) (xo : Nat) (xf : Nat) (xs : Nat) (xp : Nat) (xq : Nat) (xr : Nat) (xc : Nat) (p9 : Int32) : ctI l yX8_cuts wsX8_cuts ({ frames := 1, cells := 0, slots := 0, locals := 60 } : Room) D (tyIJ cI cJ) [.ref x0, .int p9] [(x0, .inr (8, [.ref xn, .int 0, .ref xl, .ref xt, .ref xo, .ref xf, .ref xs, .ref xp, .ref xq, .ref xr, .ref xc]))] (fun (r : Int32) (u : va_W) => u = [] ∧ r = (-2)) := by
  refine ctI.of (cc := cX8_cuts) (maxL := 4) (ret := (some .int)) (by decide) rfl (Nat.le_of_ble_eq_true rfl) ?_
  intro p e s m below meth c ls A hx hb hr hts hown hml hlocks hname hA hK hN hP hD hS hl
  have hl : lv_has ls 4 [(0, .ref x0), (1, .int p9)] := hl
  have hown : s.vm.findClass RX8 = some m.cls := hown
  refine lv_aload_n hx hb dX8_cuts_0 rfl (lv_at hl 0 rfl) ?_
  refine lv_iload_n hx hb dX8_cuts_1 rfl (lv_at hl 1 rfl) ?_
  refine my_gpI (my_pV (As := [.int p9]) (rest := []) (ci := 8) ⟨hx, hb, hml, hown, hts⟩ (cwV 1 hts gX8_cuts_X8_isPlace rfl rfl rfl (by decide +kernel) ⟨Nat.le_of_ble_eq_true rfl, Nat.le_of_ble_eq_true rfl⟩) hN hK hP [0] rfl 0 rfl rfl rfl rfl hl.1 rfl (Nat.le_of_ble_eq_true rfl) dX8_cuts_2 ⟨Nat.le_of_ble_eq_true rfl, Nat.le_of_ble_eq_true rfl⟩  (k0_X8_isPlace l D cI cJ x0 xn xl xt xo xf xs xp xq xr xc p9)) (fun r hp => ?_)
  obtain rfl := hp
  refine lv_if_ne (tgt := 11) hx hb dX8_cuts_5 (by decide) (fun c5 => ?_) (fun c5 => ?_)
  ·
    exact absurd c5 (by decide +kernel)
  ·
    refine lv_bipush (v := (-2)) hx hb dX8_cuts_8 (by decide +kernel) ?_
    exact my_retI hx hb hr hlocks hK hS [] (hP.sub [] rfl) (hD.sub [] (by decide) rfl) (⟨rfl, rfl⟩) dX8_cuts_10
set_option maxHeartbeats 4000000 in
set_option maxRecDepth 100000 in
theorem k0_X8_swaps (l : Launch) (D : va_G) (cI cJ : ClassId) (x0 : Nat) (xn : Nat) (xl : Nat) (xt : Nat) (xo : Nat) (xf : Nat) (xs : Nat) (xp : Nat) (xq : Nat) (xr : Nat) (xc : Nat) (p9 : Int32) (q9 : Int32) : ctI l yX8_swaps wsX8_swaps ({ frames := 1, cells := 0, slots := 0, locals := 60 } : Room) D (tyIJ cI cJ) [.ref x0, .int p9, .int q9] [(x0, .inr (8, [.ref xn, .int 0, .ref xl, .ref xt, .ref xo, .ref xf, .ref xs, .ref xp, .ref xq, .ref xr, .ref xc]))] (fun (r : Int32) (u : va_W) => u = [] ∧ r = (-2)) := by
  refine ctI.of (cc := cX8_swaps) (maxL := 3) (ret := (some .int)) (by decide) rfl (Nat.le_of_ble_eq_true rfl) ?_
  intro p e s m below meth c ls A hx hb hr hts hown hml hlocks hname hA hK hN hP hD hS hl
  have hl : lv_has ls 3 [(0, .ref x0), (1, .int p9), (2, .int q9)] := hl
  have hown : s.vm.findClass RX8 = some m.cls := hown
  refine lv_aload_n hx hb dX8_swaps_0 rfl (lv_at hl 0 rfl) ?_
  refine lv_iload_n hx hb dX8_swaps_1 rfl (lv_at hl 1 rfl) ?_
  refine my_gpI (my_pV (As := [.int p9]) (rest := []) (ci := 8) ⟨hx, hb, hml, hown, hts⟩ (cwV 1 hts gX8_swaps_X8_isPlace rfl rfl rfl (by decide +kernel) ⟨Nat.le_of_ble_eq_true rfl, Nat.le_of_ble_eq_true rfl⟩) hN hK hP [0] rfl 0 rfl rfl rfl rfl hl.1 rfl (Nat.le_of_ble_eq_true rfl) dX8_swaps_2 ⟨Nat.le_of_ble_eq_true rfl, Nat.le_of_ble_eq_true rfl⟩  (k0_X8_isPlace l D cI cJ x0 xn xl xt xo xf xs xp xq xr xc p9)) (fun r hp => ?_)
  obtain rfl := hp
  refine lv_if_eq (tgt := 21) hx hb dX8_swaps_5 (by decide) (fun c5 => ?_) (fun c5 => ?_)
  ·
    refine lv_bipush (v := (-2)) hx hb dX8_swaps_21 (by decide +kernel) ?_
    exact my_retI hx hb hr hlocks hK hS [] (hP.sub [] rfl) (hD.sub [] (by decide) rfl) (⟨rfl, rfl⟩) dX8_swaps_23
  ·
    exact absurd c5 (by decide +kernel)
set_option maxHeartbeats 4000000 in
set_option maxRecDepth 100000 in
theorem k0_X8_reverses (l : Launch) (D : va_G) (cI cJ : ClassId) (x0 : Nat) (xn : Nat) (xl : Nat) (xt : Nat) (xo : Nat) (xf : Nat) (xs : Nat) (xp : Nat) (xq : Nat) (xr : Nat) (xc : Nat) (r1 : Nat) (r2 : Nat) (r3 : Nat) (r4 : Nat) (r5 : Nat) (r6 : Int32) (r7 : Int32) (r8 : Int32) (bb : Nat) (bo : Nat) (bs : Nat) (z : Int32) (y : Int32) (f : Nat → Int32) (g : Nat → Int32) (l9 : Int32) (r9 : Int32) : ctI l yX8_reverses wsX8_reverses ({ frames := 5, cells := 0, slots := 0, locals := 300 } : Room) D (tyIJ cI cJ) [.ref x0, .int l9, .int r9] [(x0, .inr (8, [.ref xn, .int 0, .ref xl, .ref xt, .ref xo, .ref xf, .ref xs, .ref xp, .ref xq, .ref xr, .ref xc])), (xr, .inr (2, [.ref r1, .ref r2, .ref r3, .ref r4, .ref r5, .int r6, .int r7, .int r8, .int y])), (xl, .inr (1, [.ref bb, .ref bo, .ref bs, .int z])), (bo, .inl (cI, 64, .inl f)), (bs, .inl (cI, 64, .inl g)), (bb, .inl (cJ, 8, .inr (.inl (fun _ => (0 : Int64)))))] (fun (r : Int32) (u : va_W) => (u = [] ∧ r = 0 ∧ l9.toInt = 0 ∧ r9.toInt = 0) ∨ (u = [] ∧ r = (-1) ∧ (l9.toInt < 0 ∨ r9.toInt < l9.toInt ∨ 0 < r9.toInt))) := by
  refine ctI.of (cc := cX8_reverses) (maxL := 5) (ret := (some .int)) (by decide) rfl (Nat.le_of_ble_eq_true rfl) ?_
  intro p e s m below meth c ls A hx hb hr hts hown hml hlocks hname hA hK hN hP hD hS hl
  have hl : lv_has ls 5 [(0, .ref x0), (1, .int l9), (2, .int r9)] := hl
  have hown : s.vm.findClass RX8 = some m.cls := hown
  refine lv_aload_n hx hb dX8_reverses_0 rfl (lv_at hl 0 rfl) ?_
  refine lv_iload_n hx hb dX8_reverses_1 rfl (lv_at hl 1 rfl) ?_
  refine lv_iload_n hx hb dX8_reverses_2 rfl (lv_at hl 2 rfl) ?_
  refine my_gpI (my_pV (As := [.int l9, .int r9]) (rest := []) (ci := 8) ⟨hx, hb, hml, hown, hts⟩ (cwV 2 hts gX8_reverses_X8_isSpan rfl rfl rfl (by decide +kernel) ⟨Nat.le_of_ble_eq_true rfl, Nat.le_of_ble_eq_true rfl⟩) hN hK hP [0] rfl 0 rfl rfl rfl rfl hl.1 rfl (Nat.le_of_ble_eq_true rfl) dX8_reverses_3 ⟨Nat.le_of_ble_eq_true rfl, Nat.le_of_ble_eq_true rfl⟩  (k0_X8_isSpan l D cI cJ x0 xn xl xt xo xf xs xp xq xr xc l9 r9)) (fun r hp => ?_)
  rcases hp with ⟨rfl, rfl, rfl⟩ | ⟨rfl, ha_1⟩
  ·
    refine lv_if_ne (tgt := 11) hx hb dX8_reverses_6 (by decide) (fun c6 => ?_) (fun c6 => ?_)
    ·
      refine lv_iload_n hx hb dX8_reverses_11 rfl (lv_at hl 2 rfl) ?_
      refine lv_iconst (v := 1) hx hb dX8_reverses_12 (by decide +kernel) ?_
      refine lv_isub hx hb dX8_reverses_13 ?_
      refine my_eqi (y := (-1)) (by decide +kernel) ?_
      refine lv_istore_n (lv' := [(3, .int (-1)), (0, .ref x0), (1, .int 0), (2, .int 0)]) hx hb dX8_reverses_14 rfl hl (by decide) rfl (fun ls hl => ?_)
      refine lv_iload_n hx hb dX8_reverses_15 rfl (lv_at hl 2 rfl) ?_
      refine lv_istore (lv' := [(4, .int 0), (3, .int (-1)), (0, .ref x0), (1, .int 0), (2, .int 0)]) hx hb dX8_reverses_16 hl (by decide) rfl (fun ls hl => ?_)
      refine lv_iload hx hb dX8_reverses_18 (lv_at hl 0 rfl) ?_
      refine lv_iload_n hx hb dX8_reverses_20 rfl (lv_at hl 1 rfl) ?_
      refine lv_icmp_ge (tgt := 40) hx hb dX8_reverses_21 (by decide) (fun c21 => ?_) (fun c21 => ?_)
      ·
        refine lv_aload_n hx hb dX8_reverses_40 rfl (lv_at hl 2 rfl) ?_
        refine my_goI (wr := []) hP hD hS hA [0, 1, 2, 3, 4, 5] [] rfl rfl (by decide) (by decide) (my_cV (As := []) (rest := []) (ci := 8) (wc := [(x0, .inr (8, [.ref xn, .int 0, .ref xl, .ref xt, .ref xo, .ref xf, .ref xs, .ref xp, .ref xq, .ref xr, .ref xc])), (xr, .inr (2, [.ref r1, .ref r2, .ref r3, .ref r4, .ref r5, .int r6, .int r7, .int r8, .int y])), (xl, .inr (1, [.ref bb, .ref bo, .ref bs, .int z])), (bo, .inl (cI, 64, .inl f)), (bs, .inl (cI, 64, .inl g)), (bb, .inl (cJ, 8, .inr (.inl (fun _ => (0 : Int64)))))]) ⟨hx, hb, hml, hown, hts⟩ (cwV 0 hts gX8_reverses_X8_settle rfl rfl rfl (by decide +kernel) ⟨Nat.le_of_ble_eq_true rfl, Nat.le_of_ble_eq_true rfl⟩) hN hK hP hD [0, 1, 2, 3, 4, 5] rfl (by decide) rfl 0 rfl rfl rfl rfl hl.1 rfl (Nat.le_of_ble_eq_true rfl) dX8_reverses_41 ⟨Nat.le_of_ble_eq_true rfl, Nat.le_of_ble_eq_true rfl⟩  ((k0_X8_settle l D cI cJ x0 xn xl xt xo xf xs xp xq xr xc r1 r2 r3 r4 r5 r6 r7 r8 bb bo bs z y f g) _)) (fun r u H locs hp hP hD hS => ?_)
        obtain ⟨rfl, rfl⟩ := hp
        have hP : va_P D vwCl [(x0, .inr (8, [.ref xn, .int 0, .ref xl, .ref xt, .ref xo, .ref xf, .ref xs, .ref xp, .ref xq, .ref xr, .ref xc]))] H := hP
        have hD : va_D A [(x0, .inr (8, [.ref xn, .int 0, .ref xl, .ref xt, .ref xo, .ref xf, .ref xs, .ref xp, .ref xq, .ref xr, .ref xc]))] := hD
        exact my_retI hx hb hr hlocks hK hS [] (hP.sub [] rfl) (hD.sub [] (by decide) rfl) (Or.inl ⟨rfl, rfl, (by first | omega | assumption | trivial | decide +kernel), (by first | omega | assumption | trivial | decide +kernel)⟩) dX8_reverses_44
      ·
        exact absurd c21 (by decide +kernel)
    ·
      exact absurd c6 (by decide +kernel)
  ·
    refine lv_if_ne (tgt := 11) hx hb dX8_reverses_6 (by decide) (fun c6 => ?_) (fun c6 => ?_)
    ·
      exact absurd c6 (by decide +kernel)
    ·
      refine lv_iconst (v := (-1)) hx hb dX8_reverses_9 (by decide +kernel) ?_
      exact my_retI hx hb hr hlocks hK hS [] (hP.sub [] rfl) (hD.sub [] (by decide) rfl) (Or.inr (⟨rfl, rfl, (by first | omega | assumption | trivial | decide +kernel)⟩)) dX8_reverses_10
set_option maxHeartbeats 4000000 in
set_option maxRecDepth 100000 in
theorem k0_X8_sign (l : Launch) (D : va_G) (cI cJ : ClassId) (x0 : Nat) (xn : Nat) (xl : Nat) (xt : Nat) (xo : Nat) (xf : Nat) (xs : Nat) (xp : Nat) (xq : Nat) (xr : Nat) (xc : Nat) (t1 : Nat) (v9 : Int32) : ctI l yX8_sign wsX8_sign ({ frames := 1, cells := 0, slots := 0, locals := 60 } : Room) D (tyIJ cI cJ) [.ref x0, .int v9] [(x0, .inr (8, [.ref xn, .int 0, .ref xl, .ref xt, .ref xo, .ref xf, .ref xs, .ref xp, .ref xq, .ref xr, .ref xc])), (xt, .inr (5, [.ref t1, .int 0])), (t1, .inl (cI, 100, .inl (fun _ => (0 : Int32))))] (fun (r : Int32) (u : va_W) => u = [] ∧ r = 4) := by
  refine ctI.of (cc := cX8_sign) (maxL := 2) (ret := (some .int)) (by decide) rfl (Nat.le_of_ble_eq_true rfl) ?_
  intro p e s m below meth c ls A hx hb hr hts hown hml hlocks hname hA hK hN hP hD hS hl
  have hl : lv_has ls 2 [(0, .ref x0), (1, .int v9)] := hl
  have hown : s.vm.findClass RX8 = some m.cls := hown
  have hi5 : ∀ w ∈ u_ws RX5 TX5 2, w ∈ wsX8_sign := by decide +kernel
  have hi8 : ∀ w ∈ u_ws RX8 TX8 11, w ∈ wsX8_sign := by decide +kernel
  have fl27 := hts (.fieldLink RX8 27 "PlaneColumn" "text" "LPlaneColumn$Signs;") (by decide +kernel)
  refine lv_aload_n hx hb dX8_sign_0 rfl (lv_at hl 0 rfl) ?_
  refine va_get (ci := 8) (v := .ref xt) (C := RX8) (T := TX8) (N := 11) hx hb hts hi8 hown hK hP 0 rfl rfl 3 (by decide) fl27 (fun _ h9 => h9) rfl dX8_sign_1 ?_
  refine lv_iload_n hx hb dX8_sign_4 rfl (lv_at hl 1 rfl) ?_
  refine my_goI (wr := [(x0, .inr (8, [.ref xn, .int 0, .ref xl, .ref xt, .ref xo, .ref xf, .ref xs, .ref xp, .ref xq, .ref xr, .ref xc]))]) hP hD hS hA [1, 2] [0] rfl rfl (by decide) (by decide) (my_cV (As := [.int v9]) (rest := []) (ci := 5) (wc := [(xt, .inr (5, [.ref t1, .int 0])), (t1, .inl (cI, 100, .inl (fun _ => (0 : Int32))))]) ⟨hx, hb, hml, hown, hts⟩ (cwV 1 hts gX8_sign_X5_add rfl rfl rfl (by decide +kernel) ⟨Nat.le_of_ble_eq_true rfl, Nat.le_of_ble_eq_true rfl⟩) hN hK hP hD [1, 2] rfl (by decide) rfl 1 rfl rfl rfl rfl hl.1 rfl (Nat.le_of_ble_eq_true rfl) dX8_sign_5 ⟨Nat.le_of_ble_eq_true rfl, Nat.le_of_ble_eq_true rfl⟩  ((k0_X5_add l D cI cJ xt t1 v9) _)) (fun r u H locs hp hP hD hS => ?_)
  obtain ⟨rfl, rfl⟩ := hp
  have hP : va_P D vwCl [(x0, .inr (8, [.ref xn, .int 0, .ref xl, .ref xt, .ref xo, .ref xf, .ref xs, .ref xp, .ref xq, .ref xr, .ref xc])), (xt, .inr (5, [.ref t1, .int 4]))] H := hP
  have hD : va_D A [(x0, .inr (8, [.ref xn, .int 0, .ref xl, .ref xt, .ref xo, .ref xf, .ref xs, .ref xp, .ref xq, .ref xr, .ref xc])), (xt, .inr (5, [.ref t1, .int 4]))] := hD
  refine lv_if_eq (tgt := 21) hx hb dX8_sign_8 (by decide) (fun c8 => ?_) (fun c8 => ?_)
  ·
    exact absurd c8 (by decide +kernel)
  ·
    refine lv_aload_n hx hb dX8_sign_11 rfl (lv_at hl 0 rfl) ?_
    refine va_get (ci := 8) (v := .ref xt) (C := RX8) (T := TX8) (N := 11) hx hb hts hi8 hown hK hP 0 rfl rfl 3 (by decide) fl27 (fun _ h9 => h9) rfl dX8_sign_12 ?_
    refine va_getN (ci := 5) (v := .int 4) (C := RX5) (T := TX5) (N := 2) hx hb hts hi5 hown hK hP 1 rfl rfl 1 (by decide) (nw_f_RX8_129 hN) (fun _ h9 => h9) rfl dX8_sign_15 ?_
    refine lv_goto (tgt := 22) hx hb dX8_sign_18 (by decide) ?_
    exact my_retI hx hb hr hlocks hK hS [] (hP.sub [] rfl) (hD.sub [] (by decide) rfl) (⟨rfl, rfl⟩) dX8_sign_22
set_option maxHeartbeats 4000000 in
set_option maxRecDepth 100000 in
theorem k0_X8_end (l : Launch) (D : va_G) (cI cJ : ClassId) (x0 : Nat) (xn : Nat) (xl : Nat) (xt : Nat) (xo : Nat) (xf : Nat) (xs : Nat) (xp : Nat) (xq : Nat) (xr : Nat) (xc : Nat) (t1 : Nat) (n9 : Int32) : ctI l yX8_end wsX8_end ({ frames := 1, cells := 0, slots := 0, locals := 60 } : Room) D (tyIJ cI cJ) [.ref x0, .int n9] [(x0, .inr (8, [.ref xn, .int 0, .ref xl, .ref xt, .ref xo, .ref xf, .ref xs, .ref xp, .ref xq, .ref xr, .ref xc])), (xt, .inr (5, [.ref t1, .int 0]))] (fun (r : Int32) (u : va_W) => (u = [] ∧ r = 1 ∧ n9.toInt = 0) ∨ (u = [] ∧ r = 0 ∧ (n9.toInt < 0 ∨ 0 < n9.toInt))) := by
  refine ctI.of (cc := cX8_end) (maxL := 2) (ret := (some .boolean)) (by decide) rfl (Nat.le_of_ble_eq_true rfl) ?_
  intro p e s m below meth c ls A hx hb hr hts hown hml hlocks hname hA hK hN hP hD hS hl
  have hl : lv_has ls 2 [(0, .ref x0), (1, .int n9)] := hl
  have hown : s.vm.findClass RX8 = some m.cls := hown
  have hi8 : ∀ w ∈ u_ws RX8 TX8 11, w ∈ wsX8_end := by decide +kernel
  have fl27 := hts (.fieldLink RX8 27 "PlaneColumn" "text" "LPlaneColumn$Signs;") (by decide +kernel)
  refine lv_aload_n hx hb dX8_end_0 rfl (lv_at hl 0 rfl) ?_
  refine va_get (ci := 8) (v := .ref xt) (C := RX8) (T := TX8) (N := 11) hx hb hts hi8 hown hK hP 0 rfl rfl 3 (by decide) fl27 (fun _ h9 => h9) rfl dX8_end_1 ?_
  refine lv_iload_n hx hb dX8_end_4 rfl (lv_at hl 1 rfl) ?_
  refine my_goI (wr := [(x0, .inr (8, [.ref xn, .int 0, .ref xl, .ref xt, .ref xo, .ref xf, .ref xs, .ref xp, .ref xq, .ref xr, .ref xc]))]) hP hD hS hA [1] [0] rfl rfl (by decide) (by decide) (my_cV (As := [.int n9]) (rest := []) (ci := 5) (wc := [(xt, .inr (5, [.ref t1, .int 0]))]) ⟨hx, hb, hml, hown, hts⟩ (cwV 1 hts gX8_end_X5_keep rfl rfl rfl (by decide +kernel) ⟨Nat.le_of_ble_eq_true rfl, Nat.le_of_ble_eq_true rfl⟩) hN hK hP hD [1] rfl (by decide) rfl 1 rfl rfl rfl rfl hl.1 rfl (Nat.le_of_ble_eq_true rfl) dX8_end_5 ⟨Nat.le_of_ble_eq_true rfl, Nat.le_of_ble_eq_true rfl⟩  ((k0_X5_keep l D cI cJ xt t1 n9) _)) (fun r u H locs hp hP hD hS => ?_)
  rcases hp with ⟨rfl, rfl, ha_1⟩ | ⟨rfl, rfl, ha_2⟩
  ·
    have hP : va_P D vwCl [(x0, .inr (8, [.ref xn, .int 0, .ref xl, .ref xt, .ref xo, .ref xf, .ref xs, .ref xp, .ref xq, .ref xr, .ref xc]))] H := hP
    have hD : va_D A [(x0, .inr (8, [.ref xn, .int 0, .ref xl, .ref xt, .ref xo, .ref xf, .ref xs, .ref xp, .ref xq, .ref xr, .ref xc]))] := hD
    exact my_retZ hx hb hr hlocks (by decide +kernel) hK hS [] (hP.sub [] rfl) (hD.sub [] (by decide) rfl) (Or.inl ⟨rfl, rfl, (by first | omega | assumption | trivial | decide +kernel)⟩) dX8_end_8
  ·
    have hP : va_P D vwCl [(x0, .inr (8, [.ref xn, .int 0, .ref xl, .ref xt, .ref xo, .ref xf, .ref xs, .ref xp, .ref xq, .ref xr, .ref xc]))] H := hP
    have hD : va_D A [(x0, .inr (8, [.ref xn, .int 0, .ref xl, .ref xt, .ref xo, .ref xf, .ref xs, .ref xp, .ref xq, .ref xr, .ref xc]))] := hD
    exact my_retZ hx hb hr hlocks (by decide +kernel) hK hS [] (hP.sub [] rfl) (hD.sub [] (by decide) rfl) (Or.inr (⟨rfl, rfl, (by first | omega | assumption | trivial | decide +kernel)⟩)) dX8_end_8
set_option maxHeartbeats 4000000 in
set_option maxRecDepth 100000 in
theorem k0_X8_level (l : Launch) (D : va_G) (cI cJ : ClassId) (x0 : Nat) (xn : Nat) (xl : Nat) (xt : Nat) (xo : Nat) (xf : Nat) (xs : Nat) (xp : Nat) (xq : Nat) (xr : Nat) (xc : Nat) (bb : Nat) (bo : Nat) (bs : Nat) (z : Int32) (o1 : Nat) (o2 : Int32) (of : Nat → Int64) (j9 : Int32) : ctI l yX8_level wsX8_level ({ frames := 2, cells := 0, slots := 0, locals := 120 } : Room) D (tyIJ cI cJ) [.ref x0, .int j9] [(x0, .inr (8, [.ref xn, .int 0, .ref xl, .ref xt, .ref xo, .ref xf, .ref xs, .ref xp, .ref xq, .ref xr, .ref xc])), (xl, .inr (1, [.ref bb, .ref bo, .ref bs, .int z])), (bb, .inl (cJ, 8, .inr (.inl (fun _ => (0 : Int64))))), (xo, .inr (7, [.ref o1, .int o2])), (o1, .inl (cJ, 64, .inr (.inl of)))] (fun (r : Int32) (u : va_W) => (u = [] ∧ r = 0 ∧ 0 ≤ j9.toInt ∧ j9.toInt ≤ 7) ∨ (u = [] ∧ r = (-1) ∧ (j9.toInt < 0 ∨ 7 < j9.toInt))) := by
  refine ctI.of (cc := cX8_level) (maxL := 4) (ret := (some .int)) (by decide) rfl (Nat.le_of_ble_eq_true rfl) ?_
  intro p e s m below meth c ls A hx hb hr hts hown hml hlocks hname hA hK hN hP hD hS hl
  have hl : lv_has ls 4 [(0, .ref x0), (1, .int j9)] := hl
  have hown : s.vm.findClass RX8 = some m.cls := hown
  have hi1 : ∀ w ∈ u_ws RX1 TX1 4, w ∈ wsX8_level := by decide +kernel
  have hi8 : ∀ w ∈ u_ws RX8 TX8 11, w ∈ wsX8_level := by decide +kernel
  have fl13 := hts (.fieldLink RX8 13 "PlaneColumn" "size" "I") (by decide +kernel)
  have fl20 := hts (.fieldLink RX8 20 "PlaneColumn" "levels" "LPlaneColumn$Levels;") (by decide +kernel)
  refine lv_iload_n hx hb dX8_level_0 rfl (lv_at hl 1 rfl) ?_
  refine lv_if_lt (tgt := 10) hx hb dX8_level_1 (by decide) (fun c1 => ?_) (fun c1 => ?_)
  ·
    have d1 : j9.toInt < (0 : Int) := my_lt c1 rfl (by decide +kernel)
    refine lv_iconst (v := (-1)) hx hb dX8_level_10 (by decide +kernel) ?_
    exact my_retI hx hb hr hlocks hK hS [] (hP.sub [] rfl) (hD.sub [] (by decide) rfl) (Or.inr (⟨rfl, rfl, (by first | omega | assumption | trivial | decide +kernel)⟩)) dX8_level_11
  ·
    have d1 : j9.toInt ≥ (0 : Int) := my_nlt c1 rfl (by decide +kernel)
    refine lv_iload_n hx hb dX8_level_4 rfl (lv_at hl 1 rfl) ?_
    refine lv_bipush (v := 8) hx hb dX8_level_5 (by decide +kernel) ?_
    refine lv_icmp_lt (tgt := 12) hx hb dX8_level_7 (by decide) (fun c7 => ?_) (fun c7 => ?_)
    ·
      have d7 : j9.toInt < (8 : Int) := my_lt c7 rfl (by decide +kernel)
      refine lv_aload_n hx hb dX8_level_12 rfl (lv_at hl 0 rfl) ?_
      refine va_get (ci := 8) (v := .ref xl) (C := RX8) (T := TX8) (N := 11) hx hb hts hi8 hown hK hP 0 rfl rfl 2 (by decide) fl20 (fun _ h9 => h9) rfl dX8_level_13 ?_
      refine va_getN (ci := 1) (v := .ref bb) (C := RX1) (T := TX1) (N := 4) hx hb hts hi1 hown hK hP 1 rfl rfl 0 (by decide) (nw_f_RX8_130 hN) (fun _ h9 => h9) rfl dX8_level_16 ?_
      refine lv_iload_n hx hb dX8_level_19 rfl (lv_at hl 1 rfl) ?_
      refine va_lald hx hb hK hP 2 1 rfl rfl (vp_in_iff.mpr ⟨by omega, by omega⟩) dX8_level_20 ?_
      refine my_eql (y := 0) rfl ?_
      refine lv_lstore_n (lv' := [(2, .long 0), (0, .ref x0), (1, .int j9)]) hx hb dX8_level_21 rfl hl (by decide) rfl (fun ls hl => ?_)
      refine lv_aload_n hx hb dX8_level_22 rfl (lv_at hl 1 rfl) ?_
      refine lv_lload_n hx hb dX8_level_23 rfl (lv_at hl 0 rfl) ?_
      refine lv_lload_n hx hb dX8_level_24 rfl (lv_at hl 0 rfl) ?_
      refine lv_aload_n hx hb dX8_level_25 rfl (lv_at hl 1 rfl) ?_
      refine va_get (ci := 8) (v := .int 0) (C := RX8) (T := TX8) (N := 11) hx hb hts hi8 hown hK hP 0 rfl rfl 1 (by decide) fl13 (fun _ h9 => h9) rfl dX8_level_26 ?_
      refine my_gpI (my_pS (As := [.long 0, .int 0]) (rest := [.long 0, .ref x0]) ⟨hx, hb, hml, hown, hts⟩ (va_cwS 2 hts gX8_level_X8_runsOf rfl rfl rfl (by decide +kernel) ⟨Nat.le_of_ble_eq_true rfl, Nat.le_of_ble_eq_true rfl⟩) hN hK hP [] rfl rfl hl.1 rfl (Nat.le_of_ble_eq_true rfl) dX8_level_29 ⟨Nat.le_of_ble_eq_true rfl, Nat.le_of_ble_eq_true rfl⟩  (k0_X8_runsOf l D cI cJ (0 : Int64))) (fun r hp => ?_)
      obtain rfl := hp
      refine lv_i2l (v := 0) hx hb dX8_level_32 (by decide +kernel) ?_
      refine my_goV (wr := [(xl, .inr (1, [.ref bb, .ref bo, .ref bs, .int z])), (bb, .inl (cJ, 8, .inr (.inl (fun _ => (0 : Int64)))))]) hP hD hS hA [0, 3, 4] [1, 2] rfl rfl (by decide) (by decide) (my_cV (As := [.long 0, .long 0]) (rest := []) (ci := 8) (wc := [(x0, .inr (8, [.ref xn, .int 0, .ref xl, .ref xt, .ref xo, .ref xf, .ref xs, .ref xp, .ref xq, .ref xr, .ref xc])), (xo, .inr (7, [.ref o1, .int o2])), (o1, .inl (cJ, 64, .inr (.inl of)))]) ⟨hx, hb, hml, hown, hts⟩ (cwV 2 hts gX8_level_X8_tell_ rfl rfl rfl (by decide +kernel) ⟨Nat.le_of_ble_eq_true rfl, Nat.le_of_ble_eq_true rfl⟩) hN hK hP hD [0, 3, 4] rfl (by decide) rfl 0 rfl rfl rfl rfl hl.1 rfl (Nat.le_of_ble_eq_true rfl) dX8_level_33 ⟨Nat.le_of_ble_eq_true rfl, Nat.le_of_ble_eq_true rfl⟩  ((k_X8_tell_ l D cI cJ x0 xn xl xt xo xf xs xp xq xr xc o1 (0 : Int32) o2 of (0 : Int64) (0 : Int64)) _)) (fun u H locs hp hP hD hS => ?_)
      obtain ⟨k_1, f_2, rfl, ha_3⟩ := hp
      have hP : va_P D vwCl [(xl, .inr (1, [.ref bb, .ref bo, .ref bs, .int z])), (bb, .inl (cJ, 8, .inr (.inl (fun _ => (0 : Int64))))), (x0, .inr (8, [.ref xn, .int 0, .ref xl, .ref xt, .ref xo, .ref xf, .ref xs, .ref xp, .ref xq, .ref xr, .ref xc])), (xo, .inr (7, [.ref o1, .int (nI k_1)])), (o1, .inl (cJ, 64, .inr (.inl f_2)))] H := hP
      have hD : va_D A [(xl, .inr (1, [.ref bb, .ref bo, .ref bs, .int z])), (bb, .inl (cJ, 8, .inr (.inl (fun _ => (0 : Int64))))), (x0, .inr (8, [.ref xn, .int 0, .ref xl, .ref xt, .ref xo, .ref xf, .ref xs, .ref xp, .ref xq, .ref xr, .ref xc])), (xo, .inr (7, [.ref o1, .int (nI k_1)])), (o1, .inl (cJ, 64, .inr (.inl f_2)))] := hD
      refine lv_aload_n hx hb dX8_level_36 rfl (lv_at hl 1 rfl) ?_
      refine va_get (ci := 8) (v := .int 0) (C := RX8) (T := TX8) (N := 11) hx hb hts hi8 hown hK hP 2 rfl rfl 1 (by decide) fl13 (fun _ h9 => h9) rfl dX8_level_37 ?_
      refine lv_lload_n hx hb dX8_level_40 rfl (lv_at hl 0 rfl) ?_
      refine my_gpI (my_pS (As := [.long 0]) (rest := [.int 0]) ⟨hx, hb, hml, hown, hts⟩ (va_cwS 1 hts gX8_level_J13_bitCount_95d88 rfl rfl rfl (by decide +kernel) ⟨Nat.le_of_ble_eq_true rfl, Nat.le_of_ble_eq_true rfl⟩) hN hK hP [] rfl rfl hl.1 rfl (Nat.le_of_ble_eq_true rfl) dX8_level_41 ⟨Nat.le_of_ble_eq_true rfl, Nat.le_of_ble_eq_true rfl⟩  (k0_J13_bitCount_95d88 l D cI cJ )) (fun r hp => ?_)
      obtain rfl := hp
      refine lv_isub hx hb dX8_level_44 ?_
      refine my_eqi (y := 0) (by decide +kernel) ?_
      exact my_retI hx hb hr hlocks hK hS [] (hP.sub [] rfl) (hD.sub [] (by decide) rfl) (Or.inl ⟨rfl, rfl, (by first | omega | assumption | trivial | decide +kernel), (by first | omega | assumption | trivial | decide +kernel)⟩) dX8_level_45
    ·
      have d7 : j9.toInt ≥ (8 : Int) := my_nlt c7 rfl (by decide +kernel)
      refine lv_iconst (v := (-1)) hx hb dX8_level_10 (by decide +kernel) ?_
      exact my_retI hx hb hr hlocks hK hS [] (hP.sub [] rfl) (hD.sub [] (by decide) rfl) (Or.inr (⟨rfl, rfl, (by first | omega | assumption | trivial | decide +kernel)⟩)) dX8_level_11
set_option maxHeartbeats 4000000 in
set_option maxRecDepth 100000 in
theorem k0_X8_spot (l : Launch) (D : va_G) (cI cJ : ClassId) (x0 : Nat) (xn : Nat) (xl : Nat) (xt : Nat) (xo : Nat) (xf : Nat) (xs : Nat) (xp : Nat) (xq : Nat) (xr : Nat) (xc : Nat) (p9 : Int32) (j9 : Int32) : ctI l yX8_spot wsX8_spot ({ frames := 1, cells := 0, slots := 0, locals := 60 } : Room) D (tyIJ cI cJ) [.ref x0, .int p9, .int j9] [(x0, .inr (8, [.ref xn, .int 0, .ref xl, .ref xt, .ref xo, .ref xf, .ref xs, .ref xp, .ref xq, .ref xr, .ref xc]))] (fun (r : Int32) (u : va_W) => (u = [] ∧ r = (-2) ∧ 0 ≤ j9.toInt ∧ j9.toInt ≤ 8) ∨ (u = [] ∧ r = (-1) ∧ (j9.toInt < 0 ∨ 8 < j9.toInt))) := by
  refine ctI.of (cc := cX8_spot) (maxL := 3) (ret := (some .int)) (by decide) rfl (Nat.le_of_ble_eq_true rfl) ?_
  intro p e s m below meth c ls A hx hb hr hts hown hml hlocks hname hA hK hN hP hD hS hl
  have hl : lv_has ls 3 [(0, .ref x0), (1, .int p9), (2, .int j9)] := hl
  have hown : s.vm.findClass RX8 = some m.cls := hown
  refine lv_iload_n hx hb dX8_spot_0 rfl (lv_at hl 2 rfl) ?_
  refine lv_if_lt (tgt := 10) hx hb dX8_spot_1 (by decide) (fun c1 => ?_) (fun c1 => ?_)
  ·
    have d1 : j9.toInt < (0 : Int) := my_lt c1 rfl (by decide +kernel)
    refine lv_iconst (v := (-1)) hx hb dX8_spot_10 (by decide +kernel) ?_
    exact my_retI hx hb hr hlocks hK hS [] (hP.sub [] rfl) (hD.sub [] (by decide) rfl) (Or.inr (⟨rfl, rfl, (by first | omega | assumption | trivial | decide +kernel)⟩)) dX8_spot_11
  ·
    have d1 : j9.toInt ≥ (0 : Int) := my_nlt c1 rfl (by decide +kernel)
    refine lv_iload_n hx hb dX8_spot_4 rfl (lv_at hl 2 rfl) ?_
    refine lv_bipush (v := 8) hx hb dX8_spot_5 (by decide +kernel) ?_
    refine lv_icmp_le (tgt := 12) hx hb dX8_spot_7 (by decide) (fun c7 => ?_) (fun c7 => ?_)
    ·
      have d7 : j9.toInt ≤ (8 : Int) := my_le c7 rfl (by decide +kernel)
      refine lv_aload_n hx hb dX8_spot_12 rfl (lv_at hl 0 rfl) ?_
      refine lv_iload_n hx hb dX8_spot_13 rfl (lv_at hl 1 rfl) ?_
      refine my_gpI (my_pV (As := [.int p9]) (rest := []) (ci := 8) ⟨hx, hb, hml, hown, hts⟩ (cwV 1 hts gX8_spot_X8_isPlace rfl rfl rfl (by decide +kernel) ⟨Nat.le_of_ble_eq_true rfl, Nat.le_of_ble_eq_true rfl⟩) hN hK hP [0] rfl 0 rfl rfl rfl rfl hl.1 rfl (Nat.le_of_ble_eq_true rfl) dX8_spot_14 ⟨Nat.le_of_ble_eq_true rfl, Nat.le_of_ble_eq_true rfl⟩  (k0_X8_isPlace l D cI cJ x0 xn xl xt xo xf xs xp xq xr xc p9)) (fun r hp => ?_)
      obtain rfl := hp
      refine lv_if_ne (tgt := 23) hx hb dX8_spot_17 (by decide) (fun c17 => ?_) (fun c17 => ?_)
      ·
        exact absurd c17 (by decide +kernel)
      ·
        refine lv_bipush (v := (-2)) hx hb dX8_spot_20 (by decide +kernel) ?_
        exact my_retI hx hb hr hlocks hK hS [] (hP.sub [] rfl) (hD.sub [] (by decide) rfl) (Or.inl ⟨rfl, rfl, (by first | omega | assumption | trivial | decide +kernel), (by first | omega | assumption | trivial | decide +kernel)⟩) dX8_spot_22
    ·
      have d7 : j9.toInt > (8 : Int) := my_nle c7 rfl (by decide +kernel)
      refine lv_iconst (v := (-1)) hx hb dX8_spot_10 (by decide +kernel) ?_
      exact my_retI hx hb hr hlocks hK hS [] (hP.sub [] rfl) (hD.sub [] (by decide) rfl) (Or.inr (⟨rfl, rfl, (by first | omega | assumption | trivial | decide +kernel)⟩)) dX8_spot_11
set_option maxHeartbeats 4000000 in
set_option maxRecDepth 100000 in
theorem k0_X8_from (l : Launch) (D : va_G) (cI cJ : ClassId) (x0 : Nat) (xn : Nat) (xl : Nat) (xt : Nat) (xo : Nat) (xf : Nat) (xs : Nat) (xp : Nat) (xq : Nat) (xr : Nat) (xc : Nat) (j9 : Int32) (p9 : Int32) : ctI l yX8_from wsX8_from ({ frames := 1, cells := 0, slots := 0, locals := 60 } : Room) D (tyIJ cI cJ) [.ref x0, .int j9, .int p9] [(x0, .inr (8, [.ref xn, .int 0, .ref xl, .ref xt, .ref xo, .ref xf, .ref xs, .ref xp, .ref xq, .ref xr, .ref xc]))] (fun (r : Int32) (u : va_W) => (u = [] ∧ r = (-2) ∧ 0 ≤ j9.toInt ∧ j9.toInt ≤ 8) ∨ (u = [] ∧ r = (-1) ∧ (j9.toInt < 0 ∨ 8 < j9.toInt))) := by
  refine ctI.of (cc := cX8_from) (maxL := 4) (ret := (some .int)) (by decide) rfl (Nat.le_of_ble_eq_true rfl) ?_
  intro p e s m below meth c ls A hx hb hr hts hown hml hlocks hname hA hK hN hP hD hS hl
  have hl : lv_has ls 4 [(0, .ref x0), (1, .int j9), (2, .int p9)] := hl
  have hown : s.vm.findClass RX8 = some m.cls := hown
  refine lv_iload_n hx hb dX8_from_0 rfl (lv_at hl 1 rfl) ?_
  refine lv_if_lt (tgt := 10) hx hb dX8_from_1 (by decide) (fun c1 => ?_) (fun c1 => ?_)
  ·
    have d1 : j9.toInt < (0 : Int) := my_lt c1 rfl (by decide +kernel)
    refine lv_iconst (v := (-1)) hx hb dX8_from_10 (by decide +kernel) ?_
    exact my_retI hx hb hr hlocks hK hS [] (hP.sub [] rfl) (hD.sub [] (by decide) rfl) (Or.inr (⟨rfl, rfl, (by first | omega | assumption | trivial | decide +kernel)⟩)) dX8_from_11
  ·
    have d1 : j9.toInt ≥ (0 : Int) := my_nlt c1 rfl (by decide +kernel)
    refine lv_iload_n hx hb dX8_from_4 rfl (lv_at hl 1 rfl) ?_
    refine lv_bipush (v := 8) hx hb dX8_from_5 (by decide +kernel) ?_
    refine lv_icmp_le (tgt := 12) hx hb dX8_from_7 (by decide) (fun c7 => ?_) (fun c7 => ?_)
    ·
      have d7 : j9.toInt ≤ (8 : Int) := my_le c7 rfl (by decide +kernel)
      refine lv_aload_n hx hb dX8_from_12 rfl (lv_at hl 0 rfl) ?_
      refine lv_iload_n hx hb dX8_from_13 rfl (lv_at hl 2 rfl) ?_
      refine my_gpI (my_pV (As := [.int p9]) (rest := []) (ci := 8) ⟨hx, hb, hml, hown, hts⟩ (cwV 1 hts gX8_from_X8_isPlace rfl rfl rfl (by decide +kernel) ⟨Nat.le_of_ble_eq_true rfl, Nat.le_of_ble_eq_true rfl⟩) hN hK hP [0] rfl 0 rfl rfl rfl rfl hl.1 rfl (Nat.le_of_ble_eq_true rfl) dX8_from_14 ⟨Nat.le_of_ble_eq_true rfl, Nat.le_of_ble_eq_true rfl⟩  (k0_X8_isPlace l D cI cJ x0 xn xl xt xo xf xs xp xq xr xc p9)) (fun r hp => ?_)
      obtain rfl := hp
      refine lv_if_ne (tgt := 23) hx hb dX8_from_17 (by decide) (fun c17 => ?_) (fun c17 => ?_)
      ·
        exact absurd c17 (by decide +kernel)
      ·
        refine lv_bipush (v := (-2)) hx hb dX8_from_20 (by decide +kernel) ?_
        exact my_retI hx hb hr hlocks hK hS [] (hP.sub [] rfl) (hD.sub [] (by decide) rfl) (Or.inl ⟨rfl, rfl, (by first | omega | assumption | trivial | decide +kernel), (by first | omega | assumption | trivial | decide +kernel)⟩) dX8_from_22
    ·
      have d7 : j9.toInt > (8 : Int) := my_nle c7 rfl (by decide +kernel)
      refine lv_iconst (v := (-1)) hx hb dX8_from_10 (by decide +kernel) ?_
      exact my_retI hx hb hr hlocks hK hS [] (hP.sub [] rfl) (hD.sub [] (by decide) rfl) (Or.inr (⟨rfl, rfl, (by first | omega | assumption | trivial | decide +kernel)⟩)) dX8_from_11
set_option maxHeartbeats 4000000 in
set_option maxRecDepth 100000 in
theorem k0_X8_runs (l : Launch) (D : va_G) (cI cJ : ClassId) (x0 : Nat) (xn : Nat) (xl : Nat) (xt : Nat) (xo : Nat) (xf : Nat) (xs : Nat) (xp : Nat) (xq : Nat) (xr : Nat) (xc : Nat) (bb : Nat) (bo : Nat) (bs : Nat) (z : Int32) (o1 : Nat) (o2 : Int32) (of : Nat → Int64) : ctI l yX8_runs wsX8_runs ({ frames := 1, cells := 0, slots := 0, locals := 60 } : Room) D (tyIJ cI cJ) [.ref x0] [(x0, .inr (8, [.ref xn, .int 0, .ref xl, .ref xt, .ref xo, .ref xf, .ref xs, .ref xp, .ref xq, .ref xr, .ref xc])), (xl, .inr (1, [.ref bb, .ref bo, .ref bs, .int z])), (bb, .inl (cJ, 8, .inr (.inl (fun _ => (0 : Int64))))), (xo, .inr (7, [.ref o1, .int o2])), (o1, .inl (cJ, 64, .inr (.inl of)))] (fun (r : Int32) (u : va_W) => u = [] ∧ r = 0) := by
  refine ctI.of (cc := cX8_runs) (maxL := 4) (ret := (some .int)) (by decide) rfl (Nat.le_of_ble_eq_true rfl) ?_
  intro p e s m below meth c ls A hx hb hr hts hown hml hlocks hname hA hK hN hP hD hS hl
  have hl : lv_has ls 4 [(0, .ref x0)] := hl
  have hown : s.vm.findClass RX8 = some m.cls := hown
  have hi1 : ∀ w ∈ u_ws RX1 TX1 4, w ∈ wsX8_runs := by decide +kernel
  have hi8 : ∀ w ∈ u_ws RX8 TX8 11, w ∈ wsX8_runs := by decide +kernel
  have fl13 := hts (.fieldLink RX8 13 "PlaneColumn" "size" "I") (by decide +kernel)
  have fl20 := hts (.fieldLink RX8 20 "PlaneColumn" "levels" "LPlaneColumn$Levels;") (by decide +kernel)
  have fl34 := hts (.fieldLink RX8 34 "PlaneColumn" "told" "LPlaneColumn$Told;") (by decide +kernel)
  refine lv_iconst (v := 0) hx hb dX8_runs_0 (by decide +kernel) ?_
  refine lv_istore_n (lv' := [(1, .int 0), (0, .ref x0)]) hx hb dX8_runs_1 rfl hl (by decide) rfl (fun ls hl => ?_)
  refine lv_aload_n hx hb dX8_runs_2 rfl (lv_at hl 1 rfl) ?_
  refine va_get (ci := 8) (v := .ref xo) (C := RX8) (T := TX8) (N := 11) hx hb hts hi8 hown hK hP 0 rfl rfl 4 (by decide) fl34 (fun _ h9 => h9) rfl dX8_runs_3 ?_
  refine my_goV (wr := [(x0, .inr (8, [.ref xn, .int 0, .ref xl, .ref xt, .ref xo, .ref xf, .ref xs, .ref xp, .ref xq, .ref xr, .ref xc])), (xl, .inr (1, [.ref bb, .ref bo, .ref bs, .int z])), (bb, .inl (cJ, 8, .inr (.inl (fun _ => (0 : Int64))))), (o1, .inl (cJ, 64, .inr (.inl of)))]) hP hD hS hA [3] [0, 1, 2, 4] rfl rfl (by decide) (by decide) (my_cV (As := []) (rest := []) (ci := 7) (wc := [(xo, .inr (7, [.ref o1, .int o2]))]) ⟨hx, hb, hml, hown, hts⟩ (cwV 0 hts gX8_runs_X7_begin rfl rfl rfl (by decide +kernel) ⟨Nat.le_of_ble_eq_true rfl, Nat.le_of_ble_eq_true rfl⟩) hN hK hP hD [3] rfl (by decide) rfl 3 rfl rfl rfl rfl hl.1 rfl (Nat.le_of_ble_eq_true rfl) dX8_runs_6 ⟨Nat.le_of_ble_eq_true rfl, Nat.le_of_ble_eq_true rfl⟩  ((k_X7_begin l D cI cJ xo o1 o2) _)) (fun u H locs hp hP hD hS => ?_)
  obtain rfl := hp
  have hP : va_P D vwCl [(x0, .inr (8, [.ref xn, .int 0, .ref xl, .ref xt, .ref xo, .ref xf, .ref xs, .ref xp, .ref xq, .ref xr, .ref xc])), (xl, .inr (1, [.ref bb, .ref bo, .ref bs, .int z])), (bb, .inl (cJ, 8, .inr (.inl (fun _ => (0 : Int64))))), (o1, .inl (cJ, 64, .inr (.inl of))), (xo, .inr (7, [.ref o1, .int 0]))] H := hP
  have hD : va_D A [(x0, .inr (8, [.ref xn, .int 0, .ref xl, .ref xt, .ref xo, .ref xf, .ref xs, .ref xp, .ref xq, .ref xr, .ref xc])), (xl, .inr (1, [.ref bb, .ref bo, .ref bs, .int z])), (bb, .inl (cJ, 8, .inr (.inl (fun _ => (0 : Int64))))), (o1, .inl (cJ, 64, .inr (.inl of))), (xo, .inr (7, [.ref o1, .int 0]))] := hD
  refine lv_iconst (v := 0) hx hb dX8_runs_9 (by decide +kernel) ?_
  refine lv_istore_n (lv' := [(2, .int 0), (1, .int 0), (0, .ref x0)]) hx hb dX8_runs_10 rfl hl (by decide) rfl (fun ls hl => ?_)
  refine lv_iload_n hx hb dX8_runs_11 rfl (lv_at hl 0 rfl) ?_
  refine lv_bipush (v := 8) hx hb dX8_runs_12 (by decide +kernel) ?_
  refine lv_icmp_ge (tgt := 53) hx hb dX8_runs_14 (by decide) (fun c14 => ?_) (fun c14 => ?_)
  ·
    exact absurd c14 (by decide +kernel)
  ·
    refine lv_aload_n hx hb dX8_runs_17 rfl (lv_at hl 2 rfl) ?_
    refine va_get (ci := 8) (v := .ref xl) (C := RX8) (T := TX8) (N := 11) hx hb hts hi8 hown hK hP 0 rfl rfl 2 (by decide) fl20 (fun _ h9 => h9) rfl dX8_runs_18 ?_
    refine va_getN (ci := 1) (v := .ref bb) (C := RX1) (T := TX1) (N := 4) hx hb hts hi1 hown hK hP 1 rfl rfl 0 (by decide) (nw_f_RX8_130 hN) (fun _ h9 => h9) rfl dX8_runs_21 ?_
    refine lv_iload_n hx hb dX8_runs_24 rfl (lv_at hl 0 rfl) ?_
    refine va_lald hx hb hK hP 2 1 rfl rfl (vp_in_nI (n := 0) (by omega) (by omega)) dX8_runs_25 ?_
    refine my_eql (y := 0) rfl ?_
    refine lv_aload_n hx hb dX8_runs_26 rfl (lv_at hl 2 rfl) ?_
    refine va_get (ci := 8) (v := .int 0) (C := RX8) (T := TX8) (N := 11) hx hb hts hi8 hown hK hP 0 rfl rfl 1 (by decide) fl13 (fun _ h9 => h9) rfl dX8_runs_27 ?_
    refine my_gpI (my_pS (As := [.long 0, .int 0]) (rest := []) ⟨hx, hb, hml, hown, hts⟩ (va_cwS 2 hts gX8_runs_X8_runsOf rfl rfl rfl (by decide +kernel) ⟨Nat.le_of_ble_eq_true rfl, Nat.le_of_ble_eq_true rfl⟩) hN hK hP [] rfl rfl hl.1 rfl (Nat.le_of_ble_eq_true rfl) dX8_runs_30 ⟨Nat.le_of_ble_eq_true rfl, Nat.le_of_ble_eq_true rfl⟩  (k0_X8_runsOf l D cI cJ (0 : Int64))) (fun r hp => ?_)
    obtain rfl := hp
    refine lv_istore_n (lv' := [(3, .int 0), (2, .int 0), (1, .int 0), (0, .ref x0)]) hx hb dX8_runs_33 rfl hl (by decide) rfl (fun ls hl => ?_)
    refine lv_aload_n hx hb dX8_runs_34 rfl (lv_at hl 3 rfl) ?_
    refine va_get (ci := 8) (v := .ref xo) (C := RX8) (T := TX8) (N := 11) hx hb hts hi8 hown hK hP 0 rfl rfl 4 (by decide) fl34 (fun _ h9 => h9) rfl dX8_runs_35 ?_
    refine lv_iload_n hx hb dX8_runs_38 rfl (lv_at hl 0 rfl) ?_
    refine lv_i2l (v := 0) hx hb dX8_runs_39 (by decide +kernel) ?_
    refine my_goV (wr := [(x0, .inr (8, [.ref xn, .int 0, .ref xl, .ref xt, .ref xo, .ref xf, .ref xs, .ref xp, .ref xq, .ref xr, .ref xc])), (xl, .inr (1, [.ref bb, .ref bo, .ref bs, .int z])), (bb, .inl (cJ, 8, .inr (.inl (fun _ => (0 : Int64)))))]) hP hD hS hA [4, 3] [0, 1, 2] rfl rfl (by decide) (by decide) (my_cV (As := [.long 0]) (rest := []) (ci := 7) (wc := [(xo, .inr (7, [.ref o1, .int 0])), (o1, .inl (cJ, 64, .inr (.inl of)))]) ⟨hx, hb, hml, hown, hts⟩ (cwV 1 hts gX8_runs_X7_add rfl rfl rfl (by decide +kernel) ⟨Nat.le_of_ble_eq_true rfl, Nat.le_of_ble_eq_true rfl⟩) hN hK hP hD [4, 3] rfl (by decide) rfl 4 rfl rfl rfl rfl hl.1 rfl (Nat.le_of_ble_eq_true rfl) dX8_runs_40 ⟨Nat.le_of_ble_eq_true rfl, Nat.le_of_ble_eq_true rfl⟩  ((k_X7_add l D cI cJ xo o1 0 of (0 : Int64) (by first | omega | decide +kernel)) _)) (fun u H locs hp hP hD hS => ?_)
    obtain ⟨k_1, f_2, rfl, ha_3, hb_4⟩ := hp
    have hP : va_P D vwCl [(x0, .inr (8, [.ref xn, .int 0, .ref xl, .ref xt, .ref xo, .ref xf, .ref xs, .ref xp, .ref xq, .ref xr, .ref xc])), (xl, .inr (1, [.ref bb, .ref bo, .ref bs, .int z])), (bb, .inl (cJ, 8, .inr (.inl (fun _ => (0 : Int64))))), (xo, .inr (7, [.ref o1, .int (nI k_1)])), (o1, .inl (cJ, 64, .inr (.inl f_2)))] H := hP
    have hD : va_D A [(x0, .inr (8, [.ref xn, .int 0, .ref xl, .ref xt, .ref xo, .ref xf, .ref xs, .ref xp, .ref xq, .ref xr, .ref xc])), (xl, .inr (1, [.ref bb, .ref bo, .ref bs, .int z])), (bb, .inl (cJ, 8, .inr (.inl (fun _ => (0 : Int64))))), (xo, .inr (7, [.ref o1, .int (nI k_1)])), (o1, .inl (cJ, 64, .inr (.inl f_2)))] := hD
    refine lv_iload_n hx hb dX8_runs_43 rfl (lv_at hl 2 rfl) ?_
    refine lv_iload_n hx hb dX8_runs_44 rfl (lv_at hl 0 rfl) ?_
    refine lv_iadd hx hb dX8_runs_45 ?_
    refine my_eqi (y := 0) (by decide +kernel) ?_
    refine lv_istore_n (lv' := [(1, .int 0), (3, .int 0), (2, .int 0), (0, .ref x0)]) hx hb dX8_runs_46 rfl hl (by decide) rfl (fun ls hl => ?_)
    refine lv_iinc (v := 1) (lv' := [(2, .int 1), (1, .int 0), (3, .int 0), (0, .ref x0)]) hx hb dX8_runs_47 hl (k := 2) rfl (by decide +kernel) (by decide) rfl (fun ls hl => ?_)
    refine lv_goto (tgt := 11) hx hb dX8_runs_50 (by decide) ?_
    refine lv_iload_n hx hb dX8_runs_11 rfl (lv_at hl 0 rfl) ?_
    refine lv_bipush (v := 8) hx hb dX8_runs_12 (by decide +kernel) ?_
    refine lv_icmp_ge (tgt := 53) hx hb dX8_runs_14 (by decide) (fun c14 => ?_) (fun c14 => ?_)
    ·
      exact absurd c14 (by decide +kernel)
    ·
      refine lv_aload_n hx hb dX8_runs_17 rfl (lv_at hl 3 rfl) ?_
      refine va_get (ci := 8) (v := .ref xl) (C := RX8) (T := TX8) (N := 11) hx hb hts hi8 hown hK hP 0 rfl rfl 2 (by decide) fl20 (fun _ h9 => h9) rfl dX8_runs_18 ?_
      refine va_getN (ci := 1) (v := .ref bb) (C := RX1) (T := TX1) (N := 4) hx hb hts hi1 hown hK hP 1 rfl rfl 0 (by decide) (nw_f_RX8_130 hN) (fun _ h9 => h9) rfl dX8_runs_21 ?_
      refine lv_iload_n hx hb dX8_runs_24 rfl (lv_at hl 0 rfl) ?_
      refine va_lald hx hb hK hP 2 1 rfl rfl (vp_in_nI (n := 1) (by omega) (by omega)) dX8_runs_25 ?_
      refine my_eql (y := 0) rfl ?_
      refine lv_aload_n hx hb dX8_runs_26 rfl (lv_at hl 3 rfl) ?_
      refine va_get (ci := 8) (v := .int 0) (C := RX8) (T := TX8) (N := 11) hx hb hts hi8 hown hK hP 0 rfl rfl 1 (by decide) fl13 (fun _ h9 => h9) rfl dX8_runs_27 ?_
      refine my_gpI (my_pS (As := [.long 0, .int 0]) (rest := []) ⟨hx, hb, hml, hown, hts⟩ (va_cwS 2 hts gX8_runs_X8_runsOf rfl rfl rfl (by decide +kernel) ⟨Nat.le_of_ble_eq_true rfl, Nat.le_of_ble_eq_true rfl⟩) hN hK hP [] rfl rfl hl.1 rfl (Nat.le_of_ble_eq_true rfl) dX8_runs_30 ⟨Nat.le_of_ble_eq_true rfl, Nat.le_of_ble_eq_true rfl⟩  (k0_X8_runsOf l D cI cJ (0 : Int64))) (fun r hp => ?_)
      obtain rfl := hp
      refine lv_istore_n (lv' := [(3, .int 0), (2, .int 1), (1, .int 0), (0, .ref x0)]) hx hb dX8_runs_33 rfl hl (by decide) rfl (fun ls hl => ?_)
      refine lv_aload_n hx hb dX8_runs_34 rfl (lv_at hl 3 rfl) ?_
      refine va_get (ci := 8) (v := .ref xo) (C := RX8) (T := TX8) (N := 11) hx hb hts hi8 hown hK hP 0 rfl rfl 4 (by decide) fl34 (fun _ h9 => h9) rfl dX8_runs_35 ?_
      refine lv_iload_n hx hb dX8_runs_38 rfl (lv_at hl 0 rfl) ?_
      refine lv_i2l (v := 0) hx hb dX8_runs_39 (by decide +kernel) ?_
      refine my_goV (wr := [(x0, .inr (8, [.ref xn, .int 0, .ref xl, .ref xt, .ref xo, .ref xf, .ref xs, .ref xp, .ref xq, .ref xr, .ref xc])), (xl, .inr (1, [.ref bb, .ref bo, .ref bs, .int z])), (bb, .inl (cJ, 8, .inr (.inl (fun _ => (0 : Int64)))))]) hP hD hS hA [3, 4] [0, 1, 2] rfl rfl (by decide) (by decide) (my_cV (As := [.long 0]) (rest := []) (ci := 7) (wc := [(xo, .inr (7, [.ref o1, .int (nI k_1)])), (o1, .inl (cJ, 64, .inr (.inl f_2)))]) ⟨hx, hb, hml, hown, hts⟩ (cwV 1 hts gX8_runs_X7_add rfl rfl rfl (by decide +kernel) ⟨Nat.le_of_ble_eq_true rfl, Nat.le_of_ble_eq_true rfl⟩) hN hK hP hD [3, 4] rfl (by decide) rfl 3 rfl rfl rfl rfl hl.1 rfl (Nat.le_of_ble_eq_true rfl) dX8_runs_40 ⟨Nat.le_of_ble_eq_true rfl, Nat.le_of_ble_eq_true rfl⟩  ((k_X7_add l D cI cJ xo o1 k_1 f_2 (0 : Int64) (by first | omega | decide +kernel)) _)) (fun u H locs hp hP hD hS => ?_)
      obtain ⟨k_5, f_6, rfl, ha_7, hb_8⟩ := hp
      have hP : va_P D vwCl [(x0, .inr (8, [.ref xn, .int 0, .ref xl, .ref xt, .ref xo, .ref xf, .ref xs, .ref xp, .ref xq, .ref xr, .ref xc])), (xl, .inr (1, [.ref bb, .ref bo, .ref bs, .int z])), (bb, .inl (cJ, 8, .inr (.inl (fun _ => (0 : Int64))))), (xo, .inr (7, [.ref o1, .int (nI k_5)])), (o1, .inl (cJ, 64, .inr (.inl f_6)))] H := hP
      have hD : va_D A [(x0, .inr (8, [.ref xn, .int 0, .ref xl, .ref xt, .ref xo, .ref xf, .ref xs, .ref xp, .ref xq, .ref xr, .ref xc])), (xl, .inr (1, [.ref bb, .ref bo, .ref bs, .int z])), (bb, .inl (cJ, 8, .inr (.inl (fun _ => (0 : Int64))))), (xo, .inr (7, [.ref o1, .int (nI k_5)])), (o1, .inl (cJ, 64, .inr (.inl f_6)))] := hD
      refine lv_iload_n hx hb dX8_runs_43 rfl (lv_at hl 2 rfl) ?_
      refine lv_iload_n hx hb dX8_runs_44 rfl (lv_at hl 0 rfl) ?_
      refine lv_iadd hx hb dX8_runs_45 ?_
      refine my_eqi (y := 0) (by decide +kernel) ?_
      refine lv_istore_n (lv' := [(1, .int 0), (3, .int 0), (2, .int 1), (0, .ref x0)]) hx hb dX8_runs_46 rfl hl (by decide) rfl (fun ls hl => ?_)
      refine lv_iinc (v := 2) (lv' := [(2, .int 2), (1, .int 0), (3, .int 0), (0, .ref x0)]) hx hb dX8_runs_47 hl (k := 2) rfl (by decide +kernel) (by decide) rfl (fun ls hl => ?_)
      refine lv_goto (tgt := 11) hx hb dX8_runs_50 (by decide) ?_
      refine lv_iload_n hx hb dX8_runs_11 rfl (lv_at hl 0 rfl) ?_
      refine lv_bipush (v := 8) hx hb dX8_runs_12 (by decide +kernel) ?_
      refine lv_icmp_ge (tgt := 53) hx hb dX8_runs_14 (by decide) (fun c14 => ?_) (fun c14 => ?_)
      ·
        exact absurd c14 (by decide +kernel)
      ·
        refine lv_aload_n hx hb dX8_runs_17 rfl (lv_at hl 3 rfl) ?_
        refine va_get (ci := 8) (v := .ref xl) (C := RX8) (T := TX8) (N := 11) hx hb hts hi8 hown hK hP 0 rfl rfl 2 (by decide) fl20 (fun _ h9 => h9) rfl dX8_runs_18 ?_
        refine va_getN (ci := 1) (v := .ref bb) (C := RX1) (T := TX1) (N := 4) hx hb hts hi1 hown hK hP 1 rfl rfl 0 (by decide) (nw_f_RX8_130 hN) (fun _ h9 => h9) rfl dX8_runs_21 ?_
        refine lv_iload_n hx hb dX8_runs_24 rfl (lv_at hl 0 rfl) ?_
        refine va_lald hx hb hK hP 2 1 rfl rfl (vp_in_nI (n := 2) (by omega) (by omega)) dX8_runs_25 ?_
        refine my_eql (y := 0) rfl ?_
        refine lv_aload_n hx hb dX8_runs_26 rfl (lv_at hl 3 rfl) ?_
        refine va_get (ci := 8) (v := .int 0) (C := RX8) (T := TX8) (N := 11) hx hb hts hi8 hown hK hP 0 rfl rfl 1 (by decide) fl13 (fun _ h9 => h9) rfl dX8_runs_27 ?_
        refine my_gpI (my_pS (As := [.long 0, .int 0]) (rest := []) ⟨hx, hb, hml, hown, hts⟩ (va_cwS 2 hts gX8_runs_X8_runsOf rfl rfl rfl (by decide +kernel) ⟨Nat.le_of_ble_eq_true rfl, Nat.le_of_ble_eq_true rfl⟩) hN hK hP [] rfl rfl hl.1 rfl (Nat.le_of_ble_eq_true rfl) dX8_runs_30 ⟨Nat.le_of_ble_eq_true rfl, Nat.le_of_ble_eq_true rfl⟩  (k0_X8_runsOf l D cI cJ (0 : Int64))) (fun r hp => ?_)
        obtain rfl := hp
        refine lv_istore_n (lv' := [(3, .int 0), (2, .int 2), (1, .int 0), (0, .ref x0)]) hx hb dX8_runs_33 rfl hl (by decide) rfl (fun ls hl => ?_)
        refine lv_aload_n hx hb dX8_runs_34 rfl (lv_at hl 3 rfl) ?_
        refine va_get (ci := 8) (v := .ref xo) (C := RX8) (T := TX8) (N := 11) hx hb hts hi8 hown hK hP 0 rfl rfl 4 (by decide) fl34 (fun _ h9 => h9) rfl dX8_runs_35 ?_
        refine lv_iload_n hx hb dX8_runs_38 rfl (lv_at hl 0 rfl) ?_
        refine lv_i2l (v := 0) hx hb dX8_runs_39 (by decide +kernel) ?_
        refine my_goV (wr := [(x0, .inr (8, [.ref xn, .int 0, .ref xl, .ref xt, .ref xo, .ref xf, .ref xs, .ref xp, .ref xq, .ref xr, .ref xc])), (xl, .inr (1, [.ref bb, .ref bo, .ref bs, .int z])), (bb, .inl (cJ, 8, .inr (.inl (fun _ => (0 : Int64)))))]) hP hD hS hA [3, 4] [0, 1, 2] rfl rfl (by decide) (by decide) (my_cV (As := [.long 0]) (rest := []) (ci := 7) (wc := [(xo, .inr (7, [.ref o1, .int (nI k_5)])), (o1, .inl (cJ, 64, .inr (.inl f_6)))]) ⟨hx, hb, hml, hown, hts⟩ (cwV 1 hts gX8_runs_X7_add rfl rfl rfl (by decide +kernel) ⟨Nat.le_of_ble_eq_true rfl, Nat.le_of_ble_eq_true rfl⟩) hN hK hP hD [3, 4] rfl (by decide) rfl 3 rfl rfl rfl rfl hl.1 rfl (Nat.le_of_ble_eq_true rfl) dX8_runs_40 ⟨Nat.le_of_ble_eq_true rfl, Nat.le_of_ble_eq_true rfl⟩  ((k_X7_add l D cI cJ xo o1 k_5 f_6 (0 : Int64) (by first | omega | decide +kernel)) _)) (fun u H locs hp hP hD hS => ?_)
        obtain ⟨k_9, f_10, rfl, ha_11, hb_12⟩ := hp
        have hP : va_P D vwCl [(x0, .inr (8, [.ref xn, .int 0, .ref xl, .ref xt, .ref xo, .ref xf, .ref xs, .ref xp, .ref xq, .ref xr, .ref xc])), (xl, .inr (1, [.ref bb, .ref bo, .ref bs, .int z])), (bb, .inl (cJ, 8, .inr (.inl (fun _ => (0 : Int64))))), (xo, .inr (7, [.ref o1, .int (nI k_9)])), (o1, .inl (cJ, 64, .inr (.inl f_10)))] H := hP
        have hD : va_D A [(x0, .inr (8, [.ref xn, .int 0, .ref xl, .ref xt, .ref xo, .ref xf, .ref xs, .ref xp, .ref xq, .ref xr, .ref xc])), (xl, .inr (1, [.ref bb, .ref bo, .ref bs, .int z])), (bb, .inl (cJ, 8, .inr (.inl (fun _ => (0 : Int64))))), (xo, .inr (7, [.ref o1, .int (nI k_9)])), (o1, .inl (cJ, 64, .inr (.inl f_10)))] := hD
        refine lv_iload_n hx hb dX8_runs_43 rfl (lv_at hl 2 rfl) ?_
        refine lv_iload_n hx hb dX8_runs_44 rfl (lv_at hl 0 rfl) ?_
        refine lv_iadd hx hb dX8_runs_45 ?_
        refine my_eqi (y := 0) (by decide +kernel) ?_
        refine lv_istore_n (lv' := [(1, .int 0), (3, .int 0), (2, .int 2), (0, .ref x0)]) hx hb dX8_runs_46 rfl hl (by decide) rfl (fun ls hl => ?_)
        refine lv_iinc (v := 3) (lv' := [(2, .int 3), (1, .int 0), (3, .int 0), (0, .ref x0)]) hx hb dX8_runs_47 hl (k := 2) rfl (by decide +kernel) (by decide) rfl (fun ls hl => ?_)
        refine lv_goto (tgt := 11) hx hb dX8_runs_50 (by decide) ?_
        refine lv_iload_n hx hb dX8_runs_11 rfl (lv_at hl 0 rfl) ?_
        refine lv_bipush (v := 8) hx hb dX8_runs_12 (by decide +kernel) ?_
        refine lv_icmp_ge (tgt := 53) hx hb dX8_runs_14 (by decide) (fun c14 => ?_) (fun c14 => ?_)
        ·
          exact absurd c14 (by decide +kernel)
        ·
          refine lv_aload_n hx hb dX8_runs_17 rfl (lv_at hl 3 rfl) ?_
          refine va_get (ci := 8) (v := .ref xl) (C := RX8) (T := TX8) (N := 11) hx hb hts hi8 hown hK hP 0 rfl rfl 2 (by decide) fl20 (fun _ h9 => h9) rfl dX8_runs_18 ?_
          refine va_getN (ci := 1) (v := .ref bb) (C := RX1) (T := TX1) (N := 4) hx hb hts hi1 hown hK hP 1 rfl rfl 0 (by decide) (nw_f_RX8_130 hN) (fun _ h9 => h9) rfl dX8_runs_21 ?_
          refine lv_iload_n hx hb dX8_runs_24 rfl (lv_at hl 0 rfl) ?_
          refine va_lald hx hb hK hP 2 1 rfl rfl (vp_in_nI (n := 3) (by omega) (by omega)) dX8_runs_25 ?_
          refine my_eql (y := 0) rfl ?_
          refine lv_aload_n hx hb dX8_runs_26 rfl (lv_at hl 3 rfl) ?_
          refine va_get (ci := 8) (v := .int 0) (C := RX8) (T := TX8) (N := 11) hx hb hts hi8 hown hK hP 0 rfl rfl 1 (by decide) fl13 (fun _ h9 => h9) rfl dX8_runs_27 ?_
          refine my_gpI (my_pS (As := [.long 0, .int 0]) (rest := []) ⟨hx, hb, hml, hown, hts⟩ (va_cwS 2 hts gX8_runs_X8_runsOf rfl rfl rfl (by decide +kernel) ⟨Nat.le_of_ble_eq_true rfl, Nat.le_of_ble_eq_true rfl⟩) hN hK hP [] rfl rfl hl.1 rfl (Nat.le_of_ble_eq_true rfl) dX8_runs_30 ⟨Nat.le_of_ble_eq_true rfl, Nat.le_of_ble_eq_true rfl⟩  (k0_X8_runsOf l D cI cJ (0 : Int64))) (fun r hp => ?_)
          obtain rfl := hp
          refine lv_istore_n (lv' := [(3, .int 0), (2, .int 3), (1, .int 0), (0, .ref x0)]) hx hb dX8_runs_33 rfl hl (by decide) rfl (fun ls hl => ?_)
          refine lv_aload_n hx hb dX8_runs_34 rfl (lv_at hl 3 rfl) ?_
          refine va_get (ci := 8) (v := .ref xo) (C := RX8) (T := TX8) (N := 11) hx hb hts hi8 hown hK hP 0 rfl rfl 4 (by decide) fl34 (fun _ h9 => h9) rfl dX8_runs_35 ?_
          refine lv_iload_n hx hb dX8_runs_38 rfl (lv_at hl 0 rfl) ?_
          refine lv_i2l (v := 0) hx hb dX8_runs_39 (by decide +kernel) ?_
          refine my_goV (wr := [(x0, .inr (8, [.ref xn, .int 0, .ref xl, .ref xt, .ref xo, .ref xf, .ref xs, .ref xp, .ref xq, .ref xr, .ref xc])), (xl, .inr (1, [.ref bb, .ref bo, .ref bs, .int z])), (bb, .inl (cJ, 8, .inr (.inl (fun _ => (0 : Int64)))))]) hP hD hS hA [3, 4] [0, 1, 2] rfl rfl (by decide) (by decide) (my_cV (As := [.long 0]) (rest := []) (ci := 7) (wc := [(xo, .inr (7, [.ref o1, .int (nI k_9)])), (o1, .inl (cJ, 64, .inr (.inl f_10)))]) ⟨hx, hb, hml, hown, hts⟩ (cwV 1 hts gX8_runs_X7_add rfl rfl rfl (by decide +kernel) ⟨Nat.le_of_ble_eq_true rfl, Nat.le_of_ble_eq_true rfl⟩) hN hK hP hD [3, 4] rfl (by decide) rfl 3 rfl rfl rfl rfl hl.1 rfl (Nat.le_of_ble_eq_true rfl) dX8_runs_40 ⟨Nat.le_of_ble_eq_true rfl, Nat.le_of_ble_eq_true rfl⟩  ((k_X7_add l D cI cJ xo o1 k_9 f_10 (0 : Int64) (by first | omega | decide +kernel)) _)) (fun u H locs hp hP hD hS => ?_)
          obtain ⟨k_13, f_14, rfl, ha_15, hb_16⟩ := hp
          have hP : va_P D vwCl [(x0, .inr (8, [.ref xn, .int 0, .ref xl, .ref xt, .ref xo, .ref xf, .ref xs, .ref xp, .ref xq, .ref xr, .ref xc])), (xl, .inr (1, [.ref bb, .ref bo, .ref bs, .int z])), (bb, .inl (cJ, 8, .inr (.inl (fun _ => (0 : Int64))))), (xo, .inr (7, [.ref o1, .int (nI k_13)])), (o1, .inl (cJ, 64, .inr (.inl f_14)))] H := hP
          have hD : va_D A [(x0, .inr (8, [.ref xn, .int 0, .ref xl, .ref xt, .ref xo, .ref xf, .ref xs, .ref xp, .ref xq, .ref xr, .ref xc])), (xl, .inr (1, [.ref bb, .ref bo, .ref bs, .int z])), (bb, .inl (cJ, 8, .inr (.inl (fun _ => (0 : Int64))))), (xo, .inr (7, [.ref o1, .int (nI k_13)])), (o1, .inl (cJ, 64, .inr (.inl f_14)))] := hD
          refine lv_iload_n hx hb dX8_runs_43 rfl (lv_at hl 2 rfl) ?_
          refine lv_iload_n hx hb dX8_runs_44 rfl (lv_at hl 0 rfl) ?_
          refine lv_iadd hx hb dX8_runs_45 ?_
          refine my_eqi (y := 0) (by decide +kernel) ?_
          refine lv_istore_n (lv' := [(1, .int 0), (3, .int 0), (2, .int 3), (0, .ref x0)]) hx hb dX8_runs_46 rfl hl (by decide) rfl (fun ls hl => ?_)
          refine lv_iinc (v := 4) (lv' := [(2, .int 4), (1, .int 0), (3, .int 0), (0, .ref x0)]) hx hb dX8_runs_47 hl (k := 2) rfl (by decide +kernel) (by decide) rfl (fun ls hl => ?_)
          refine lv_goto (tgt := 11) hx hb dX8_runs_50 (by decide) ?_
          refine lv_iload_n hx hb dX8_runs_11 rfl (lv_at hl 0 rfl) ?_
          refine lv_bipush (v := 8) hx hb dX8_runs_12 (by decide +kernel) ?_
          refine lv_icmp_ge (tgt := 53) hx hb dX8_runs_14 (by decide) (fun c14 => ?_) (fun c14 => ?_)
          ·
            exact absurd c14 (by decide +kernel)
          ·
            refine lv_aload_n hx hb dX8_runs_17 rfl (lv_at hl 3 rfl) ?_
            refine va_get (ci := 8) (v := .ref xl) (C := RX8) (T := TX8) (N := 11) hx hb hts hi8 hown hK hP 0 rfl rfl 2 (by decide) fl20 (fun _ h9 => h9) rfl dX8_runs_18 ?_
            refine va_getN (ci := 1) (v := .ref bb) (C := RX1) (T := TX1) (N := 4) hx hb hts hi1 hown hK hP 1 rfl rfl 0 (by decide) (nw_f_RX8_130 hN) (fun _ h9 => h9) rfl dX8_runs_21 ?_
            refine lv_iload_n hx hb dX8_runs_24 rfl (lv_at hl 0 rfl) ?_
            refine va_lald hx hb hK hP 2 1 rfl rfl (vp_in_nI (n := 4) (by omega) (by omega)) dX8_runs_25 ?_
            refine my_eql (y := 0) rfl ?_
            refine lv_aload_n hx hb dX8_runs_26 rfl (lv_at hl 3 rfl) ?_
            refine va_get (ci := 8) (v := .int 0) (C := RX8) (T := TX8) (N := 11) hx hb hts hi8 hown hK hP 0 rfl rfl 1 (by decide) fl13 (fun _ h9 => h9) rfl dX8_runs_27 ?_
            refine my_gpI (my_pS (As := [.long 0, .int 0]) (rest := []) ⟨hx, hb, hml, hown, hts⟩ (va_cwS 2 hts gX8_runs_X8_runsOf rfl rfl rfl (by decide +kernel) ⟨Nat.le_of_ble_eq_true rfl, Nat.le_of_ble_eq_true rfl⟩) hN hK hP [] rfl rfl hl.1 rfl (Nat.le_of_ble_eq_true rfl) dX8_runs_30 ⟨Nat.le_of_ble_eq_true rfl, Nat.le_of_ble_eq_true rfl⟩  (k0_X8_runsOf l D cI cJ (0 : Int64))) (fun r hp => ?_)
            obtain rfl := hp
            refine lv_istore_n (lv' := [(3, .int 0), (2, .int 4), (1, .int 0), (0, .ref x0)]) hx hb dX8_runs_33 rfl hl (by decide) rfl (fun ls hl => ?_)
            refine lv_aload_n hx hb dX8_runs_34 rfl (lv_at hl 3 rfl) ?_
            refine va_get (ci := 8) (v := .ref xo) (C := RX8) (T := TX8) (N := 11) hx hb hts hi8 hown hK hP 0 rfl rfl 4 (by decide) fl34 (fun _ h9 => h9) rfl dX8_runs_35 ?_
            refine lv_iload_n hx hb dX8_runs_38 rfl (lv_at hl 0 rfl) ?_
            refine lv_i2l (v := 0) hx hb dX8_runs_39 (by decide +kernel) ?_
            refine my_goV (wr := [(x0, .inr (8, [.ref xn, .int 0, .ref xl, .ref xt, .ref xo, .ref xf, .ref xs, .ref xp, .ref xq, .ref xr, .ref xc])), (xl, .inr (1, [.ref bb, .ref bo, .ref bs, .int z])), (bb, .inl (cJ, 8, .inr (.inl (fun _ => (0 : Int64)))))]) hP hD hS hA [3, 4] [0, 1, 2] rfl rfl (by decide) (by decide) (my_cV (As := [.long 0]) (rest := []) (ci := 7) (wc := [(xo, .inr (7, [.ref o1, .int (nI k_13)])), (o1, .inl (cJ, 64, .inr (.inl f_14)))]) ⟨hx, hb, hml, hown, hts⟩ (cwV 1 hts gX8_runs_X7_add rfl rfl rfl (by decide +kernel) ⟨Nat.le_of_ble_eq_true rfl, Nat.le_of_ble_eq_true rfl⟩) hN hK hP hD [3, 4] rfl (by decide) rfl 3 rfl rfl rfl rfl hl.1 rfl (Nat.le_of_ble_eq_true rfl) dX8_runs_40 ⟨Nat.le_of_ble_eq_true rfl, Nat.le_of_ble_eq_true rfl⟩  ((k_X7_add l D cI cJ xo o1 k_13 f_14 (0 : Int64) (by first | omega | decide +kernel)) _)) (fun u H locs hp hP hD hS => ?_)
            obtain ⟨k_17, f_18, rfl, ha_19, hb_20⟩ := hp
            have hP : va_P D vwCl [(x0, .inr (8, [.ref xn, .int 0, .ref xl, .ref xt, .ref xo, .ref xf, .ref xs, .ref xp, .ref xq, .ref xr, .ref xc])), (xl, .inr (1, [.ref bb, .ref bo, .ref bs, .int z])), (bb, .inl (cJ, 8, .inr (.inl (fun _ => (0 : Int64))))), (xo, .inr (7, [.ref o1, .int (nI k_17)])), (o1, .inl (cJ, 64, .inr (.inl f_18)))] H := hP
            have hD : va_D A [(x0, .inr (8, [.ref xn, .int 0, .ref xl, .ref xt, .ref xo, .ref xf, .ref xs, .ref xp, .ref xq, .ref xr, .ref xc])), (xl, .inr (1, [.ref bb, .ref bo, .ref bs, .int z])), (bb, .inl (cJ, 8, .inr (.inl (fun _ => (0 : Int64))))), (xo, .inr (7, [.ref o1, .int (nI k_17)])), (o1, .inl (cJ, 64, .inr (.inl f_18)))] := hD
            refine lv_iload_n hx hb dX8_runs_43 rfl (lv_at hl 2 rfl) ?_
            refine lv_iload_n hx hb dX8_runs_44 rfl (lv_at hl 0 rfl) ?_
            refine lv_iadd hx hb dX8_runs_45 ?_
            refine my_eqi (y := 0) (by decide +kernel) ?_
            refine lv_istore_n (lv' := [(1, .int 0), (3, .int 0), (2, .int 4), (0, .ref x0)]) hx hb dX8_runs_46 rfl hl (by decide) rfl (fun ls hl => ?_)
            refine lv_iinc (v := 5) (lv' := [(2, .int 5), (1, .int 0), (3, .int 0), (0, .ref x0)]) hx hb dX8_runs_47 hl (k := 2) rfl (by decide +kernel) (by decide) rfl (fun ls hl => ?_)
            refine lv_goto (tgt := 11) hx hb dX8_runs_50 (by decide) ?_
            refine lv_iload_n hx hb dX8_runs_11 rfl (lv_at hl 0 rfl) ?_
            refine lv_bipush (v := 8) hx hb dX8_runs_12 (by decide +kernel) ?_
            refine lv_icmp_ge (tgt := 53) hx hb dX8_runs_14 (by decide) (fun c14 => ?_) (fun c14 => ?_)
            ·
              exact absurd c14 (by decide +kernel)
            ·
              refine lv_aload_n hx hb dX8_runs_17 rfl (lv_at hl 3 rfl) ?_
              refine va_get (ci := 8) (v := .ref xl) (C := RX8) (T := TX8) (N := 11) hx hb hts hi8 hown hK hP 0 rfl rfl 2 (by decide) fl20 (fun _ h9 => h9) rfl dX8_runs_18 ?_
              refine va_getN (ci := 1) (v := .ref bb) (C := RX1) (T := TX1) (N := 4) hx hb hts hi1 hown hK hP 1 rfl rfl 0 (by decide) (nw_f_RX8_130 hN) (fun _ h9 => h9) rfl dX8_runs_21 ?_
              refine lv_iload_n hx hb dX8_runs_24 rfl (lv_at hl 0 rfl) ?_
              refine va_lald hx hb hK hP 2 1 rfl rfl (vp_in_nI (n := 5) (by omega) (by omega)) dX8_runs_25 ?_
              refine my_eql (y := 0) rfl ?_
              refine lv_aload_n hx hb dX8_runs_26 rfl (lv_at hl 3 rfl) ?_
              refine va_get (ci := 8) (v := .int 0) (C := RX8) (T := TX8) (N := 11) hx hb hts hi8 hown hK hP 0 rfl rfl 1 (by decide) fl13 (fun _ h9 => h9) rfl dX8_runs_27 ?_
              refine my_gpI (my_pS (As := [.long 0, .int 0]) (rest := []) ⟨hx, hb, hml, hown, hts⟩ (va_cwS 2 hts gX8_runs_X8_runsOf rfl rfl rfl (by decide +kernel) ⟨Nat.le_of_ble_eq_true rfl, Nat.le_of_ble_eq_true rfl⟩) hN hK hP [] rfl rfl hl.1 rfl (Nat.le_of_ble_eq_true rfl) dX8_runs_30 ⟨Nat.le_of_ble_eq_true rfl, Nat.le_of_ble_eq_true rfl⟩  (k0_X8_runsOf l D cI cJ (0 : Int64))) (fun r hp => ?_)
              obtain rfl := hp
              refine lv_istore_n (lv' := [(3, .int 0), (2, .int 5), (1, .int 0), (0, .ref x0)]) hx hb dX8_runs_33 rfl hl (by decide) rfl (fun ls hl => ?_)
              refine lv_aload_n hx hb dX8_runs_34 rfl (lv_at hl 3 rfl) ?_
              refine va_get (ci := 8) (v := .ref xo) (C := RX8) (T := TX8) (N := 11) hx hb hts hi8 hown hK hP 0 rfl rfl 4 (by decide) fl34 (fun _ h9 => h9) rfl dX8_runs_35 ?_
              refine lv_iload_n hx hb dX8_runs_38 rfl (lv_at hl 0 rfl) ?_
              refine lv_i2l (v := 0) hx hb dX8_runs_39 (by decide +kernel) ?_
              refine my_goV (wr := [(x0, .inr (8, [.ref xn, .int 0, .ref xl, .ref xt, .ref xo, .ref xf, .ref xs, .ref xp, .ref xq, .ref xr, .ref xc])), (xl, .inr (1, [.ref bb, .ref bo, .ref bs, .int z])), (bb, .inl (cJ, 8, .inr (.inl (fun _ => (0 : Int64)))))]) hP hD hS hA [3, 4] [0, 1, 2] rfl rfl (by decide) (by decide) (my_cV (As := [.long 0]) (rest := []) (ci := 7) (wc := [(xo, .inr (7, [.ref o1, .int (nI k_17)])), (o1, .inl (cJ, 64, .inr (.inl f_18)))]) ⟨hx, hb, hml, hown, hts⟩ (cwV 1 hts gX8_runs_X7_add rfl rfl rfl (by decide +kernel) ⟨Nat.le_of_ble_eq_true rfl, Nat.le_of_ble_eq_true rfl⟩) hN hK hP hD [3, 4] rfl (by decide) rfl 3 rfl rfl rfl rfl hl.1 rfl (Nat.le_of_ble_eq_true rfl) dX8_runs_40 ⟨Nat.le_of_ble_eq_true rfl, Nat.le_of_ble_eq_true rfl⟩  ((k_X7_add l D cI cJ xo o1 k_17 f_18 (0 : Int64) (by first | omega | decide +kernel)) _)) (fun u H locs hp hP hD hS => ?_)
              obtain ⟨k_21, f_22, rfl, ha_23, hb_24⟩ := hp
              have hP : va_P D vwCl [(x0, .inr (8, [.ref xn, .int 0, .ref xl, .ref xt, .ref xo, .ref xf, .ref xs, .ref xp, .ref xq, .ref xr, .ref xc])), (xl, .inr (1, [.ref bb, .ref bo, .ref bs, .int z])), (bb, .inl (cJ, 8, .inr (.inl (fun _ => (0 : Int64))))), (xo, .inr (7, [.ref o1, .int (nI k_21)])), (o1, .inl (cJ, 64, .inr (.inl f_22)))] H := hP
              have hD : va_D A [(x0, .inr (8, [.ref xn, .int 0, .ref xl, .ref xt, .ref xo, .ref xf, .ref xs, .ref xp, .ref xq, .ref xr, .ref xc])), (xl, .inr (1, [.ref bb, .ref bo, .ref bs, .int z])), (bb, .inl (cJ, 8, .inr (.inl (fun _ => (0 : Int64))))), (xo, .inr (7, [.ref o1, .int (nI k_21)])), (o1, .inl (cJ, 64, .inr (.inl f_22)))] := hD
              refine lv_iload_n hx hb dX8_runs_43 rfl (lv_at hl 2 rfl) ?_
              refine lv_iload_n hx hb dX8_runs_44 rfl (lv_at hl 0 rfl) ?_
              refine lv_iadd hx hb dX8_runs_45 ?_
              refine my_eqi (y := 0) (by decide +kernel) ?_
              refine lv_istore_n (lv' := [(1, .int 0), (3, .int 0), (2, .int 5), (0, .ref x0)]) hx hb dX8_runs_46 rfl hl (by decide) rfl (fun ls hl => ?_)
              refine lv_iinc (v := 6) (lv' := [(2, .int 6), (1, .int 0), (3, .int 0), (0, .ref x0)]) hx hb dX8_runs_47 hl (k := 2) rfl (by decide +kernel) (by decide) rfl (fun ls hl => ?_)
              refine lv_goto (tgt := 11) hx hb dX8_runs_50 (by decide) ?_
              refine lv_iload_n hx hb dX8_runs_11 rfl (lv_at hl 0 rfl) ?_
              refine lv_bipush (v := 8) hx hb dX8_runs_12 (by decide +kernel) ?_
              refine lv_icmp_ge (tgt := 53) hx hb dX8_runs_14 (by decide) (fun c14 => ?_) (fun c14 => ?_)
              ·
                exact absurd c14 (by decide +kernel)
              ·
                refine lv_aload_n hx hb dX8_runs_17 rfl (lv_at hl 3 rfl) ?_
                refine va_get (ci := 8) (v := .ref xl) (C := RX8) (T := TX8) (N := 11) hx hb hts hi8 hown hK hP 0 rfl rfl 2 (by decide) fl20 (fun _ h9 => h9) rfl dX8_runs_18 ?_
                refine va_getN (ci := 1) (v := .ref bb) (C := RX1) (T := TX1) (N := 4) hx hb hts hi1 hown hK hP 1 rfl rfl 0 (by decide) (nw_f_RX8_130 hN) (fun _ h9 => h9) rfl dX8_runs_21 ?_
                refine lv_iload_n hx hb dX8_runs_24 rfl (lv_at hl 0 rfl) ?_
                refine va_lald hx hb hK hP 2 1 rfl rfl (vp_in_nI (n := 6) (by omega) (by omega)) dX8_runs_25 ?_
                refine my_eql (y := 0) rfl ?_
                refine lv_aload_n hx hb dX8_runs_26 rfl (lv_at hl 3 rfl) ?_
                refine va_get (ci := 8) (v := .int 0) (C := RX8) (T := TX8) (N := 11) hx hb hts hi8 hown hK hP 0 rfl rfl 1 (by decide) fl13 (fun _ h9 => h9) rfl dX8_runs_27 ?_
                refine my_gpI (my_pS (As := [.long 0, .int 0]) (rest := []) ⟨hx, hb, hml, hown, hts⟩ (va_cwS 2 hts gX8_runs_X8_runsOf rfl rfl rfl (by decide +kernel) ⟨Nat.le_of_ble_eq_true rfl, Nat.le_of_ble_eq_true rfl⟩) hN hK hP [] rfl rfl hl.1 rfl (Nat.le_of_ble_eq_true rfl) dX8_runs_30 ⟨Nat.le_of_ble_eq_true rfl, Nat.le_of_ble_eq_true rfl⟩  (k0_X8_runsOf l D cI cJ (0 : Int64))) (fun r hp => ?_)
                obtain rfl := hp
                refine lv_istore_n (lv' := [(3, .int 0), (2, .int 6), (1, .int 0), (0, .ref x0)]) hx hb dX8_runs_33 rfl hl (by decide) rfl (fun ls hl => ?_)
                refine lv_aload_n hx hb dX8_runs_34 rfl (lv_at hl 3 rfl) ?_
                refine va_get (ci := 8) (v := .ref xo) (C := RX8) (T := TX8) (N := 11) hx hb hts hi8 hown hK hP 0 rfl rfl 4 (by decide) fl34 (fun _ h9 => h9) rfl dX8_runs_35 ?_
                refine lv_iload_n hx hb dX8_runs_38 rfl (lv_at hl 0 rfl) ?_
                refine lv_i2l (v := 0) hx hb dX8_runs_39 (by decide +kernel) ?_
                refine my_goV (wr := [(x0, .inr (8, [.ref xn, .int 0, .ref xl, .ref xt, .ref xo, .ref xf, .ref xs, .ref xp, .ref xq, .ref xr, .ref xc])), (xl, .inr (1, [.ref bb, .ref bo, .ref bs, .int z])), (bb, .inl (cJ, 8, .inr (.inl (fun _ => (0 : Int64)))))]) hP hD hS hA [3, 4] [0, 1, 2] rfl rfl (by decide) (by decide) (my_cV (As := [.long 0]) (rest := []) (ci := 7) (wc := [(xo, .inr (7, [.ref o1, .int (nI k_21)])), (o1, .inl (cJ, 64, .inr (.inl f_22)))]) ⟨hx, hb, hml, hown, hts⟩ (cwV 1 hts gX8_runs_X7_add rfl rfl rfl (by decide +kernel) ⟨Nat.le_of_ble_eq_true rfl, Nat.le_of_ble_eq_true rfl⟩) hN hK hP hD [3, 4] rfl (by decide) rfl 3 rfl rfl rfl rfl hl.1 rfl (Nat.le_of_ble_eq_true rfl) dX8_runs_40 ⟨Nat.le_of_ble_eq_true rfl, Nat.le_of_ble_eq_true rfl⟩  ((k_X7_add l D cI cJ xo o1 k_21 f_22 (0 : Int64) (by first | omega | decide +kernel)) _)) (fun u H locs hp hP hD hS => ?_)
                obtain ⟨k_25, f_26, rfl, ha_27, hb_28⟩ := hp
                have hP : va_P D vwCl [(x0, .inr (8, [.ref xn, .int 0, .ref xl, .ref xt, .ref xo, .ref xf, .ref xs, .ref xp, .ref xq, .ref xr, .ref xc])), (xl, .inr (1, [.ref bb, .ref bo, .ref bs, .int z])), (bb, .inl (cJ, 8, .inr (.inl (fun _ => (0 : Int64))))), (xo, .inr (7, [.ref o1, .int (nI k_25)])), (o1, .inl (cJ, 64, .inr (.inl f_26)))] H := hP
                have hD : va_D A [(x0, .inr (8, [.ref xn, .int 0, .ref xl, .ref xt, .ref xo, .ref xf, .ref xs, .ref xp, .ref xq, .ref xr, .ref xc])), (xl, .inr (1, [.ref bb, .ref bo, .ref bs, .int z])), (bb, .inl (cJ, 8, .inr (.inl (fun _ => (0 : Int64))))), (xo, .inr (7, [.ref o1, .int (nI k_25)])), (o1, .inl (cJ, 64, .inr (.inl f_26)))] := hD
                refine lv_iload_n hx hb dX8_runs_43 rfl (lv_at hl 2 rfl) ?_
                refine lv_iload_n hx hb dX8_runs_44 rfl (lv_at hl 0 rfl) ?_
                refine lv_iadd hx hb dX8_runs_45 ?_
                refine my_eqi (y := 0) (by decide +kernel) ?_
                refine lv_istore_n (lv' := [(1, .int 0), (3, .int 0), (2, .int 6), (0, .ref x0)]) hx hb dX8_runs_46 rfl hl (by decide) rfl (fun ls hl => ?_)
                refine lv_iinc (v := 7) (lv' := [(2, .int 7), (1, .int 0), (3, .int 0), (0, .ref x0)]) hx hb dX8_runs_47 hl (k := 2) rfl (by decide +kernel) (by decide) rfl (fun ls hl => ?_)
                refine lv_goto (tgt := 11) hx hb dX8_runs_50 (by decide) ?_
                refine lv_iload_n hx hb dX8_runs_11 rfl (lv_at hl 0 rfl) ?_
                refine lv_bipush (v := 8) hx hb dX8_runs_12 (by decide +kernel) ?_
                refine lv_icmp_ge (tgt := 53) hx hb dX8_runs_14 (by decide) (fun c14 => ?_) (fun c14 => ?_)
                ·
                  exact absurd c14 (by decide +kernel)
                ·
                  refine lv_aload_n hx hb dX8_runs_17 rfl (lv_at hl 3 rfl) ?_
                  refine va_get (ci := 8) (v := .ref xl) (C := RX8) (T := TX8) (N := 11) hx hb hts hi8 hown hK hP 0 rfl rfl 2 (by decide) fl20 (fun _ h9 => h9) rfl dX8_runs_18 ?_
                  refine va_getN (ci := 1) (v := .ref bb) (C := RX1) (T := TX1) (N := 4) hx hb hts hi1 hown hK hP 1 rfl rfl 0 (by decide) (nw_f_RX8_130 hN) (fun _ h9 => h9) rfl dX8_runs_21 ?_
                  refine lv_iload_n hx hb dX8_runs_24 rfl (lv_at hl 0 rfl) ?_
                  refine va_lald hx hb hK hP 2 1 rfl rfl (vp_in_nI (n := 7) (by omega) (by omega)) dX8_runs_25 ?_
                  refine my_eql (y := 0) rfl ?_
                  refine lv_aload_n hx hb dX8_runs_26 rfl (lv_at hl 3 rfl) ?_
                  refine va_get (ci := 8) (v := .int 0) (C := RX8) (T := TX8) (N := 11) hx hb hts hi8 hown hK hP 0 rfl rfl 1 (by decide) fl13 (fun _ h9 => h9) rfl dX8_runs_27 ?_
                  refine my_gpI (my_pS (As := [.long 0, .int 0]) (rest := []) ⟨hx, hb, hml, hown, hts⟩ (va_cwS 2 hts gX8_runs_X8_runsOf rfl rfl rfl (by decide +kernel) ⟨Nat.le_of_ble_eq_true rfl, Nat.le_of_ble_eq_true rfl⟩) hN hK hP [] rfl rfl hl.1 rfl (Nat.le_of_ble_eq_true rfl) dX8_runs_30 ⟨Nat.le_of_ble_eq_true rfl, Nat.le_of_ble_eq_true rfl⟩  (k0_X8_runsOf l D cI cJ (0 : Int64))) (fun r hp => ?_)
                  obtain rfl := hp
                  refine lv_istore_n (lv' := [(3, .int 0), (2, .int 7), (1, .int 0), (0, .ref x0)]) hx hb dX8_runs_33 rfl hl (by decide) rfl (fun ls hl => ?_)
                  refine lv_aload_n hx hb dX8_runs_34 rfl (lv_at hl 3 rfl) ?_
                  refine va_get (ci := 8) (v := .ref xo) (C := RX8) (T := TX8) (N := 11) hx hb hts hi8 hown hK hP 0 rfl rfl 4 (by decide) fl34 (fun _ h9 => h9) rfl dX8_runs_35 ?_
                  refine lv_iload_n hx hb dX8_runs_38 rfl (lv_at hl 0 rfl) ?_
                  refine lv_i2l (v := 0) hx hb dX8_runs_39 (by decide +kernel) ?_
                  refine my_goV (wr := [(x0, .inr (8, [.ref xn, .int 0, .ref xl, .ref xt, .ref xo, .ref xf, .ref xs, .ref xp, .ref xq, .ref xr, .ref xc])), (xl, .inr (1, [.ref bb, .ref bo, .ref bs, .int z])), (bb, .inl (cJ, 8, .inr (.inl (fun _ => (0 : Int64)))))]) hP hD hS hA [3, 4] [0, 1, 2] rfl rfl (by decide) (by decide) (my_cV (As := [.long 0]) (rest := []) (ci := 7) (wc := [(xo, .inr (7, [.ref o1, .int (nI k_25)])), (o1, .inl (cJ, 64, .inr (.inl f_26)))]) ⟨hx, hb, hml, hown, hts⟩ (cwV 1 hts gX8_runs_X7_add rfl rfl rfl (by decide +kernel) ⟨Nat.le_of_ble_eq_true rfl, Nat.le_of_ble_eq_true rfl⟩) hN hK hP hD [3, 4] rfl (by decide) rfl 3 rfl rfl rfl rfl hl.1 rfl (Nat.le_of_ble_eq_true rfl) dX8_runs_40 ⟨Nat.le_of_ble_eq_true rfl, Nat.le_of_ble_eq_true rfl⟩  ((k_X7_add l D cI cJ xo o1 k_25 f_26 (0 : Int64) (by first | omega | decide +kernel)) _)) (fun u H locs hp hP hD hS => ?_)
                  obtain ⟨k_29, f_30, rfl, ha_31, hb_32⟩ := hp
                  have hP : va_P D vwCl [(x0, .inr (8, [.ref xn, .int 0, .ref xl, .ref xt, .ref xo, .ref xf, .ref xs, .ref xp, .ref xq, .ref xr, .ref xc])), (xl, .inr (1, [.ref bb, .ref bo, .ref bs, .int z])), (bb, .inl (cJ, 8, .inr (.inl (fun _ => (0 : Int64))))), (xo, .inr (7, [.ref o1, .int (nI k_29)])), (o1, .inl (cJ, 64, .inr (.inl f_30)))] H := hP
                  have hD : va_D A [(x0, .inr (8, [.ref xn, .int 0, .ref xl, .ref xt, .ref xo, .ref xf, .ref xs, .ref xp, .ref xq, .ref xr, .ref xc])), (xl, .inr (1, [.ref bb, .ref bo, .ref bs, .int z])), (bb, .inl (cJ, 8, .inr (.inl (fun _ => (0 : Int64))))), (xo, .inr (7, [.ref o1, .int (nI k_29)])), (o1, .inl (cJ, 64, .inr (.inl f_30)))] := hD
                  refine lv_iload_n hx hb dX8_runs_43 rfl (lv_at hl 2 rfl) ?_
                  refine lv_iload_n hx hb dX8_runs_44 rfl (lv_at hl 0 rfl) ?_
                  refine lv_iadd hx hb dX8_runs_45 ?_
                  refine my_eqi (y := 0) (by decide +kernel) ?_
                  refine lv_istore_n (lv' := [(1, .int 0), (3, .int 0), (2, .int 7), (0, .ref x0)]) hx hb dX8_runs_46 rfl hl (by decide) rfl (fun ls hl => ?_)
                  refine lv_iinc (v := 8) (lv' := [(2, .int 8), (1, .int 0), (3, .int 0), (0, .ref x0)]) hx hb dX8_runs_47 hl (k := 2) rfl (by decide +kernel) (by decide) rfl (fun ls hl => ?_)
                  refine lv_goto (tgt := 11) hx hb dX8_runs_50 (by decide) ?_
                  refine lv_iload_n hx hb dX8_runs_11 rfl (lv_at hl 0 rfl) ?_
                  refine lv_bipush (v := 8) hx hb dX8_runs_12 (by decide +kernel) ?_
                  refine lv_icmp_ge (tgt := 53) hx hb dX8_runs_14 (by decide) (fun c14 => ?_) (fun c14 => ?_)
                  ·
                    refine lv_iload_n hx hb dX8_runs_53 rfl (lv_at hl 1 rfl) ?_
                    exact my_retI hx hb hr hlocks hK hS [] (hP.sub [] rfl) (hD.sub [] (by decide) rfl) (⟨rfl, rfl⟩) dX8_runs_54
                  ·
                    exact absurd c14 (by decide +kernel)
set_option maxHeartbeats 4000000 in
set_option maxRecDepth 100000 in
theorem k0_X8_thrift (l : Launch) (D : va_G) (cI cJ : ClassId) (x0 : Nat) (xn : Nat) (xl : Nat) (xt : Nat) (xo : Nat) (xf : Nat) (xs : Nat) (xp : Nat) (xq : Nat) (xr : Nat) (xc : Nat) (r1 : Nat) (r2 : Nat) (r3 : Nat) (r4 : Nat) (r5 : Nat) (r6 : Int32) (r7 : Int32) (r8 : Int32) (o1 : Nat) (o2 : Int32) (of : Nat → Int64) (rf : Nat → Int32) (rg : Nat → Int32) : ctI l yX8_thrift wsX8_thrift ({ frames := 4, cells := 0, slots := 0, locals := 240 } : Room) D (tyIJ cI cJ) [.ref x0] [(x0, .inr (8, [.ref xn, .int 0, .ref xl, .ref xt, .ref xo, .ref xf, .ref xs, .ref xp, .ref xq, .ref xr, .ref xc])), (xr, .inr (2, [.ref r1, .ref r2, .ref r3, .ref r4, .ref r5, .int r6, .int r7, .int r8, .int 0])), (r4, .inl (cI, 8, .inl rg)), (r5, .inl (cI, 8, .inl rf)), (xo, .inr (7, [.ref o1, .int o2])), (o1, .inl (cJ, 64, .inr (.inl of)))] (fun (r : Int32) (u : va_W) => u = [] ∧ r = 0) := by
  refine ctI.of (cc := cX8_thrift) (maxL := 3) (ret := (some .int)) (by decide) rfl (Nat.le_of_ble_eq_true rfl) ?_
  intro p e s m below meth c ls A hx hb hr hts hown hml hlocks hname hA hK hN hP hD hS hl
  have hl : lv_has ls 3 [(0, .ref x0)] := hl
  have hown : s.vm.findClass RX8 = some m.cls := hown
  have hi2 : ∀ w ∈ u_ws RX2 TX2 9, w ∈ wsX8_thrift := by decide +kernel
  have hi8 : ∀ w ∈ u_ws RX8 TX8 11, w ∈ wsX8_thrift := by decide +kernel
  have fl13 := hts (.fieldLink RX8 13 "PlaneColumn" "size" "I") (by decide +kernel)
  have fl34 := hts (.fieldLink RX8 34 "PlaneColumn" "told" "LPlaneColumn$Told;") (by decide +kernel)
  have fl65 := hts (.fieldLink RX8 65 "PlaneColumn" "orderSearch" "LPlaneColumn$OrderSearch;") (by decide +kernel)
  have fl9 := hts (.fieldLink RX8 9 "PlaneColumn" "numbers" "[I") (by decide +kernel)
  refine lv_aload_n hx hb dX8_thrift_0 rfl (lv_at hl 0 rfl) ?_
  refine va_get (ci := 8) (v := .ref xr) (C := RX8) (T := TX8) (N := 11) hx hb hts hi8 hown hK hP 0 rfl rfl 9 (by decide) fl65 (fun _ h9 => h9) rfl dX8_thrift_1 ?_
  refine lv_aload_n hx hb dX8_thrift_4 rfl (lv_at hl 0 rfl) ?_
  refine va_get (ci := 8) (v := .ref xn) (C := RX8) (T := TX8) (N := 11) hx hb hts hi8 hown hK hP 0 rfl rfl 0 (by decide) fl9 (fun _ h9 => h9) rfl dX8_thrift_5 ?_
  refine lv_aload_n hx hb dX8_thrift_8 rfl (lv_at hl 0 rfl) ?_
  refine va_get (ci := 8) (v := .int 0) (C := RX8) (T := TX8) (N := 11) hx hb hts hi8 hown hK hP 0 rfl rfl 1 (by decide) fl13 (fun _ h9 => h9) rfl dX8_thrift_9 ?_
  refine my_goI (wr := [(x0, .inr (8, [.ref xn, .int 0, .ref xl, .ref xt, .ref xo, .ref xf, .ref xs, .ref xp, .ref xq, .ref xr, .ref xc])), (xo, .inr (7, [.ref o1, .int o2])), (o1, .inl (cJ, 64, .inr (.inl of)))]) hP hD hS hA [1, 2, 3] [0, 4, 5] rfl rfl (by decide) (by decide) (my_cV (As := [.ref xn, .int 0]) (rest := []) (ci := 2) (wc := [(xr, .inr (2, [.ref r1, .ref r2, .ref r3, .ref r4, .ref r5, .int r6, .int r7, .int r8, .int 0])), (r4, .inl (cI, 8, .inl rg)), (r5, .inl (cI, 8, .inl rf))]) ⟨hx, hb, hml, hown, hts⟩ (cwV 2 hts gX8_thrift_X2_search rfl rfl rfl (by decide +kernel) ⟨Nat.le_of_ble_eq_true rfl, Nat.le_of_ble_eq_true rfl⟩) hN hK hP hD [1, 2, 3] rfl (by decide) rfl 1 rfl rfl rfl rfl hl.1 rfl (Nat.le_of_ble_eq_true rfl) dX8_thrift_12 ⟨Nat.le_of_ble_eq_true rfl, Nat.le_of_ble_eq_true rfl⟩  ((k0_X2_search l D cI cJ xr xn r1 r2 r3 r4 r5 r6 r7 r8 rf rg) _)) (fun r u H locs hp hP hD hS => ?_)
  obtain ⟨f_1, rfl, rfl⟩ := hp
  have hP : va_P D vwCl [(x0, .inr (8, [.ref xn, .int 0, .ref xl, .ref xt, .ref xo, .ref xf, .ref xs, .ref xp, .ref xq, .ref xr, .ref xc])), (xo, .inr (7, [.ref o1, .int o2])), (o1, .inl (cJ, 64, .inr (.inl of))), (xr, .inr (2, [.ref r1, .ref r2, .ref r3, .ref r4, .ref r5, .int 0, .int 0, .int 0, .int 1])), (r5, .inl (cI, 8, .inl f_1))] H := hP
  have hD : va_D A [(x0, .inr (8, [.ref xn, .int 0, .ref xl, .ref xt, .ref xo, .ref xf, .ref xs, .ref xp, .ref xq, .ref xr, .ref xc])), (xo, .inr (7, [.ref o1, .int o2])), (o1, .inl (cJ, 64, .inr (.inl of))), (xr, .inr (2, [.ref r1, .ref r2, .ref r3, .ref r4, .ref r5, .int 0, .int 0, .int 0, .int 1])), (r5, .inl (cI, 8, .inl f_1))] := hD
  refine lv_istore_n (lv' := [(1, .int 0), (0, .ref x0)]) hx hb dX8_thrift_15 rfl hl (by decide) rfl (fun ls hl => ?_)
  refine lv_aload_n hx hb dX8_thrift_16 rfl (lv_at hl 1 rfl) ?_
  refine va_get (ci := 8) (v := .ref xo) (C := RX8) (T := TX8) (N := 11) hx hb hts hi8 hown hK hP 0 rfl rfl 4 (by decide) fl34 (fun _ h9 => h9) rfl dX8_thrift_17 ?_
  refine my_goV (wr := [(x0, .inr (8, [.ref xn, .int 0, .ref xl, .ref xt, .ref xo, .ref xf, .ref xs, .ref xp, .ref xq, .ref xr, .ref xc])), (o1, .inl (cJ, 64, .inr (.inl of))), (xr, .inr (2, [.ref r1, .ref r2, .ref r3, .ref r4, .ref r5, .int 0, .int 0, .int 0, .int 1])), (r5, .inl (cI, 8, .inl f_1))]) hP hD hS hA [1] [0, 2, 3, 4] rfl rfl (by decide) (by decide) (my_cV (As := []) (rest := []) (ci := 7) (wc := [(xo, .inr (7, [.ref o1, .int o2]))]) ⟨hx, hb, hml, hown, hts⟩ (cwV 0 hts gX8_thrift_X7_begin rfl rfl rfl (by decide +kernel) ⟨Nat.le_of_ble_eq_true rfl, Nat.le_of_ble_eq_true rfl⟩) hN hK hP hD [1] rfl (by decide) rfl 1 rfl rfl rfl rfl hl.1 rfl (Nat.le_of_ble_eq_true rfl) dX8_thrift_20 ⟨Nat.le_of_ble_eq_true rfl, Nat.le_of_ble_eq_true rfl⟩  ((k_X7_begin l D cI cJ xo o1 o2) _)) (fun u H locs hp hP hD hS => ?_)
  obtain rfl := hp
  have hP : va_P D vwCl [(x0, .inr (8, [.ref xn, .int 0, .ref xl, .ref xt, .ref xo, .ref xf, .ref xs, .ref xp, .ref xq, .ref xr, .ref xc])), (o1, .inl (cJ, 64, .inr (.inl of))), (xr, .inr (2, [.ref r1, .ref r2, .ref r3, .ref r4, .ref r5, .int 0, .int 0, .int 0, .int 1])), (r5, .inl (cI, 8, .inl f_1)), (xo, .inr (7, [.ref o1, .int 0]))] H := hP
  have hD : va_D A [(x0, .inr (8, [.ref xn, .int 0, .ref xl, .ref xt, .ref xo, .ref xf, .ref xs, .ref xp, .ref xq, .ref xr, .ref xc])), (o1, .inl (cJ, 64, .inr (.inl of))), (xr, .inr (2, [.ref r1, .ref r2, .ref r3, .ref r4, .ref r5, .int 0, .int 0, .int 0, .int 1])), (r5, .inl (cI, 8, .inl f_1)), (xo, .inr (7, [.ref o1, .int 0]))] := hD
  refine lv_iconst (v := 0) hx hb dX8_thrift_23 (by decide +kernel) ?_
  refine lv_istore_n (lv' := [(2, .int 0), (1, .int 0), (0, .ref x0)]) hx hb dX8_thrift_24 rfl hl (by decide) rfl (fun ls hl => ?_)
  refine lv_iload_n hx hb dX8_thrift_25 rfl (lv_at hl 0 rfl) ?_
  refine lv_bipush (v := 8) hx hb dX8_thrift_26 (by decide +kernel) ?_
  refine lv_icmp_ge (tgt := 54) hx hb dX8_thrift_28 (by decide) (fun c28 => ?_) (fun c28 => ?_)
  ·
    exact absurd c28 (by decide +kernel)
  ·
    refine lv_aload_n hx hb dX8_thrift_31 rfl (lv_at hl 2 rfl) ?_
    refine va_get (ci := 8) (v := .ref xo) (C := RX8) (T := TX8) (N := 11) hx hb hts hi8 hown hK hP 0 rfl rfl 4 (by decide) fl34 (fun _ h9 => h9) rfl dX8_thrift_32 ?_
    refine lv_aload_n hx hb dX8_thrift_35 rfl (lv_at hl 2 rfl) ?_
    refine va_get (ci := 8) (v := .ref xr) (C := RX8) (T := TX8) (N := 11) hx hb hts hi8 hown hK hP 0 rfl rfl 9 (by decide) fl65 (fun _ h9 => h9) rfl dX8_thrift_36 ?_
    refine va_getN (ci := 2) (v := .ref r5) (C := RX2) (T := TX2) (N := 9) hx hb hts hi2 hown hK hP 2 rfl rfl 4 (by decide) (nw_f_RX8_161 hN) (fun _ h9 => h9) rfl dX8_thrift_39 ?_
    refine lv_iload_n hx hb dX8_thrift_42 rfl (lv_at hl 0 rfl) ?_
    refine va_iald hx hb hK hP 3 0 rfl rfl (vp_in_nI (n := 0) (by omega) (by omega)) dX8_thrift_43 ?_
    refine my_eqi (y := f_1 0) (congrArg f_1 (show (0 : Int32).toNatClampNeg = 0 by decide +kernel)) ?_
    refine lv_i2l (v := (f_1 0).toInt64) hx hb dX8_thrift_44 rfl ?_
    refine my_goV (wr := [(x0, .inr (8, [.ref xn, .int 0, .ref xl, .ref xt, .ref xo, .ref xf, .ref xs, .ref xp, .ref xq, .ref xr, .ref xc])), (xr, .inr (2, [.ref r1, .ref r2, .ref r3, .ref r4, .ref r5, .int 0, .int 0, .int 0, .int 1])), (r5, .inl (cI, 8, .inl f_1))]) hP hD hS hA [4, 1] [0, 2, 3] rfl rfl (by decide) (by decide) (my_cV (As := [.long ((f_1 0).toInt64)]) (rest := []) (ci := 7) (wc := [(xo, .inr (7, [.ref o1, .int 0])), (o1, .inl (cJ, 64, .inr (.inl of)))]) ⟨hx, hb, hml, hown, hts⟩ (cwV 1 hts gX8_thrift_X7_add rfl rfl rfl (by decide +kernel) ⟨Nat.le_of_ble_eq_true rfl, Nat.le_of_ble_eq_true rfl⟩) hN hK hP hD [4, 1] rfl (by decide) rfl 4 rfl rfl rfl rfl hl.1 rfl (Nat.le_of_ble_eq_true rfl) dX8_thrift_45 ⟨Nat.le_of_ble_eq_true rfl, Nat.le_of_ble_eq_true rfl⟩  ((k_X7_add l D cI cJ xo o1 0 of ((f_1 0).toInt64) (by first | omega | decide +kernel)) _)) (fun u H locs hp hP hD hS => ?_)
    obtain ⟨k_2, f_3, rfl, ha_4, hb_5⟩ := hp
    have hP : va_P D vwCl [(x0, .inr (8, [.ref xn, .int 0, .ref xl, .ref xt, .ref xo, .ref xf, .ref xs, .ref xp, .ref xq, .ref xr, .ref xc])), (xr, .inr (2, [.ref r1, .ref r2, .ref r3, .ref r4, .ref r5, .int 0, .int 0, .int 0, .int 1])), (r5, .inl (cI, 8, .inl f_1)), (xo, .inr (7, [.ref o1, .int (nI k_2)])), (o1, .inl (cJ, 64, .inr (.inl f_3)))] H := hP
    have hD : va_D A [(x0, .inr (8, [.ref xn, .int 0, .ref xl, .ref xt, .ref xo, .ref xf, .ref xs, .ref xp, .ref xq, .ref xr, .ref xc])), (xr, .inr (2, [.ref r1, .ref r2, .ref r3, .ref r4, .ref r5, .int 0, .int 0, .int 0, .int 1])), (r5, .inl (cI, 8, .inl f_1)), (xo, .inr (7, [.ref o1, .int (nI k_2)])), (o1, .inl (cJ, 64, .inr (.inl f_3)))] := hD
    refine lv_iinc (v := 1) (lv' := [(2, .int 1), (1, .int 0), (0, .ref x0)]) hx hb dX8_thrift_48 hl (k := 0) rfl (by decide +kernel) (by decide) rfl (fun ls hl => ?_)
    refine lv_goto (tgt := 25) hx hb dX8_thrift_51 (by decide) ?_
    refine lv_iload_n hx hb dX8_thrift_25 rfl (lv_at hl 0 rfl) ?_
    refine lv_bipush (v := 8) hx hb dX8_thrift_26 (by decide +kernel) ?_
    refine lv_icmp_ge (tgt := 54) hx hb dX8_thrift_28 (by decide) (fun c28 => ?_) (fun c28 => ?_)
    ·
      exact absurd c28 (by decide +kernel)
    ·
      refine lv_aload_n hx hb dX8_thrift_31 rfl (lv_at hl 2 rfl) ?_
      refine va_get (ci := 8) (v := .ref xo) (C := RX8) (T := TX8) (N := 11) hx hb hts hi8 hown hK hP 0 rfl rfl 4 (by decide) fl34 (fun _ h9 => h9) rfl dX8_thrift_32 ?_
      refine lv_aload_n hx hb dX8_thrift_35 rfl (lv_at hl 2 rfl) ?_
      refine va_get (ci := 8) (v := .ref xr) (C := RX8) (T := TX8) (N := 11) hx hb hts hi8 hown hK hP 0 rfl rfl 9 (by decide) fl65 (fun _ h9 => h9) rfl dX8_thrift_36 ?_
      refine va_getN (ci := 2) (v := .ref r5) (C := RX2) (T := TX2) (N := 9) hx hb hts hi2 hown hK hP 1 rfl rfl 4 (by decide) (nw_f_RX8_161 hN) (fun _ h9 => h9) rfl dX8_thrift_39 ?_
      refine lv_iload_n hx hb dX8_thrift_42 rfl (lv_at hl 0 rfl) ?_
      refine va_iald hx hb hK hP 2 0 rfl rfl (vp_in_nI (n := 1) (by omega) (by omega)) dX8_thrift_43 ?_
      refine my_eqi (y := f_1 1) (congrArg f_1 (show (1 : Int32).toNatClampNeg = 1 by decide +kernel)) ?_
      refine lv_i2l (v := (f_1 1).toInt64) hx hb dX8_thrift_44 rfl ?_
      refine my_goV (wr := [(x0, .inr (8, [.ref xn, .int 0, .ref xl, .ref xt, .ref xo, .ref xf, .ref xs, .ref xp, .ref xq, .ref xr, .ref xc])), (xr, .inr (2, [.ref r1, .ref r2, .ref r3, .ref r4, .ref r5, .int 0, .int 0, .int 0, .int 1])), (r5, .inl (cI, 8, .inl f_1))]) hP hD hS hA [3, 4] [0, 1, 2] rfl rfl (by decide) (by decide) (my_cV (As := [.long ((f_1 1).toInt64)]) (rest := []) (ci := 7) (wc := [(xo, .inr (7, [.ref o1, .int (nI k_2)])), (o1, .inl (cJ, 64, .inr (.inl f_3)))]) ⟨hx, hb, hml, hown, hts⟩ (cwV 1 hts gX8_thrift_X7_add rfl rfl rfl (by decide +kernel) ⟨Nat.le_of_ble_eq_true rfl, Nat.le_of_ble_eq_true rfl⟩) hN hK hP hD [3, 4] rfl (by decide) rfl 3 rfl rfl rfl rfl hl.1 rfl (Nat.le_of_ble_eq_true rfl) dX8_thrift_45 ⟨Nat.le_of_ble_eq_true rfl, Nat.le_of_ble_eq_true rfl⟩  ((k_X7_add l D cI cJ xo o1 k_2 f_3 ((f_1 1).toInt64) (by first | omega | decide +kernel)) _)) (fun u H locs hp hP hD hS => ?_)
      obtain ⟨k_6, f_7, rfl, ha_8, hb_9⟩ := hp
      have hP : va_P D vwCl [(x0, .inr (8, [.ref xn, .int 0, .ref xl, .ref xt, .ref xo, .ref xf, .ref xs, .ref xp, .ref xq, .ref xr, .ref xc])), (xr, .inr (2, [.ref r1, .ref r2, .ref r3, .ref r4, .ref r5, .int 0, .int 0, .int 0, .int 1])), (r5, .inl (cI, 8, .inl f_1)), (xo, .inr (7, [.ref o1, .int (nI k_6)])), (o1, .inl (cJ, 64, .inr (.inl f_7)))] H := hP
      have hD : va_D A [(x0, .inr (8, [.ref xn, .int 0, .ref xl, .ref xt, .ref xo, .ref xf, .ref xs, .ref xp, .ref xq, .ref xr, .ref xc])), (xr, .inr (2, [.ref r1, .ref r2, .ref r3, .ref r4, .ref r5, .int 0, .int 0, .int 0, .int 1])), (r5, .inl (cI, 8, .inl f_1)), (xo, .inr (7, [.ref o1, .int (nI k_6)])), (o1, .inl (cJ, 64, .inr (.inl f_7)))] := hD
      refine lv_iinc (v := 2) (lv' := [(2, .int 2), (1, .int 0), (0, .ref x0)]) hx hb dX8_thrift_48 hl (k := 0) rfl (by decide +kernel) (by decide) rfl (fun ls hl => ?_)
      refine lv_goto (tgt := 25) hx hb dX8_thrift_51 (by decide) ?_
      refine lv_iload_n hx hb dX8_thrift_25 rfl (lv_at hl 0 rfl) ?_
      refine lv_bipush (v := 8) hx hb dX8_thrift_26 (by decide +kernel) ?_
      refine lv_icmp_ge (tgt := 54) hx hb dX8_thrift_28 (by decide) (fun c28 => ?_) (fun c28 => ?_)
      ·
        exact absurd c28 (by decide +kernel)
      ·
        refine lv_aload_n hx hb dX8_thrift_31 rfl (lv_at hl 2 rfl) ?_
        refine va_get (ci := 8) (v := .ref xo) (C := RX8) (T := TX8) (N := 11) hx hb hts hi8 hown hK hP 0 rfl rfl 4 (by decide) fl34 (fun _ h9 => h9) rfl dX8_thrift_32 ?_
        refine lv_aload_n hx hb dX8_thrift_35 rfl (lv_at hl 2 rfl) ?_
        refine va_get (ci := 8) (v := .ref xr) (C := RX8) (T := TX8) (N := 11) hx hb hts hi8 hown hK hP 0 rfl rfl 9 (by decide) fl65 (fun _ h9 => h9) rfl dX8_thrift_36 ?_
        refine va_getN (ci := 2) (v := .ref r5) (C := RX2) (T := TX2) (N := 9) hx hb hts hi2 hown hK hP 1 rfl rfl 4 (by decide) (nw_f_RX8_161 hN) (fun _ h9 => h9) rfl dX8_thrift_39 ?_
        refine lv_iload_n hx hb dX8_thrift_42 rfl (lv_at hl 0 rfl) ?_
        refine va_iald hx hb hK hP 2 0 rfl rfl (vp_in_nI (n := 2) (by omega) (by omega)) dX8_thrift_43 ?_
        refine my_eqi (y := f_1 2) (congrArg f_1 (show (2 : Int32).toNatClampNeg = 2 by decide +kernel)) ?_
        refine lv_i2l (v := (f_1 2).toInt64) hx hb dX8_thrift_44 rfl ?_
        refine my_goV (wr := [(x0, .inr (8, [.ref xn, .int 0, .ref xl, .ref xt, .ref xo, .ref xf, .ref xs, .ref xp, .ref xq, .ref xr, .ref xc])), (xr, .inr (2, [.ref r1, .ref r2, .ref r3, .ref r4, .ref r5, .int 0, .int 0, .int 0, .int 1])), (r5, .inl (cI, 8, .inl f_1))]) hP hD hS hA [3, 4] [0, 1, 2] rfl rfl (by decide) (by decide) (my_cV (As := [.long ((f_1 2).toInt64)]) (rest := []) (ci := 7) (wc := [(xo, .inr (7, [.ref o1, .int (nI k_6)])), (o1, .inl (cJ, 64, .inr (.inl f_7)))]) ⟨hx, hb, hml, hown, hts⟩ (cwV 1 hts gX8_thrift_X7_add rfl rfl rfl (by decide +kernel) ⟨Nat.le_of_ble_eq_true rfl, Nat.le_of_ble_eq_true rfl⟩) hN hK hP hD [3, 4] rfl (by decide) rfl 3 rfl rfl rfl rfl hl.1 rfl (Nat.le_of_ble_eq_true rfl) dX8_thrift_45 ⟨Nat.le_of_ble_eq_true rfl, Nat.le_of_ble_eq_true rfl⟩  ((k_X7_add l D cI cJ xo o1 k_6 f_7 ((f_1 2).toInt64) (by first | omega | decide +kernel)) _)) (fun u H locs hp hP hD hS => ?_)
        obtain ⟨k_10, f_11, rfl, ha_12, hb_13⟩ := hp
        have hP : va_P D vwCl [(x0, .inr (8, [.ref xn, .int 0, .ref xl, .ref xt, .ref xo, .ref xf, .ref xs, .ref xp, .ref xq, .ref xr, .ref xc])), (xr, .inr (2, [.ref r1, .ref r2, .ref r3, .ref r4, .ref r5, .int 0, .int 0, .int 0, .int 1])), (r5, .inl (cI, 8, .inl f_1)), (xo, .inr (7, [.ref o1, .int (nI k_10)])), (o1, .inl (cJ, 64, .inr (.inl f_11)))] H := hP
        have hD : va_D A [(x0, .inr (8, [.ref xn, .int 0, .ref xl, .ref xt, .ref xo, .ref xf, .ref xs, .ref xp, .ref xq, .ref xr, .ref xc])), (xr, .inr (2, [.ref r1, .ref r2, .ref r3, .ref r4, .ref r5, .int 0, .int 0, .int 0, .int 1])), (r5, .inl (cI, 8, .inl f_1)), (xo, .inr (7, [.ref o1, .int (nI k_10)])), (o1, .inl (cJ, 64, .inr (.inl f_11)))] := hD
        refine lv_iinc (v := 3) (lv' := [(2, .int 3), (1, .int 0), (0, .ref x0)]) hx hb dX8_thrift_48 hl (k := 0) rfl (by decide +kernel) (by decide) rfl (fun ls hl => ?_)
        refine lv_goto (tgt := 25) hx hb dX8_thrift_51 (by decide) ?_
        refine lv_iload_n hx hb dX8_thrift_25 rfl (lv_at hl 0 rfl) ?_
        refine lv_bipush (v := 8) hx hb dX8_thrift_26 (by decide +kernel) ?_
        refine lv_icmp_ge (tgt := 54) hx hb dX8_thrift_28 (by decide) (fun c28 => ?_) (fun c28 => ?_)
        ·
          exact absurd c28 (by decide +kernel)
        ·
          refine lv_aload_n hx hb dX8_thrift_31 rfl (lv_at hl 2 rfl) ?_
          refine va_get (ci := 8) (v := .ref xo) (C := RX8) (T := TX8) (N := 11) hx hb hts hi8 hown hK hP 0 rfl rfl 4 (by decide) fl34 (fun _ h9 => h9) rfl dX8_thrift_32 ?_
          refine lv_aload_n hx hb dX8_thrift_35 rfl (lv_at hl 2 rfl) ?_
          refine va_get (ci := 8) (v := .ref xr) (C := RX8) (T := TX8) (N := 11) hx hb hts hi8 hown hK hP 0 rfl rfl 9 (by decide) fl65 (fun _ h9 => h9) rfl dX8_thrift_36 ?_
          refine va_getN (ci := 2) (v := .ref r5) (C := RX2) (T := TX2) (N := 9) hx hb hts hi2 hown hK hP 1 rfl rfl 4 (by decide) (nw_f_RX8_161 hN) (fun _ h9 => h9) rfl dX8_thrift_39 ?_
          refine lv_iload_n hx hb dX8_thrift_42 rfl (lv_at hl 0 rfl) ?_
          refine va_iald hx hb hK hP 2 0 rfl rfl (vp_in_nI (n := 3) (by omega) (by omega)) dX8_thrift_43 ?_
          refine my_eqi (y := f_1 3) (congrArg f_1 (show (3 : Int32).toNatClampNeg = 3 by decide +kernel)) ?_
          refine lv_i2l (v := (f_1 3).toInt64) hx hb dX8_thrift_44 rfl ?_
          refine my_goV (wr := [(x0, .inr (8, [.ref xn, .int 0, .ref xl, .ref xt, .ref xo, .ref xf, .ref xs, .ref xp, .ref xq, .ref xr, .ref xc])), (xr, .inr (2, [.ref r1, .ref r2, .ref r3, .ref r4, .ref r5, .int 0, .int 0, .int 0, .int 1])), (r5, .inl (cI, 8, .inl f_1))]) hP hD hS hA [3, 4] [0, 1, 2] rfl rfl (by decide) (by decide) (my_cV (As := [.long ((f_1 3).toInt64)]) (rest := []) (ci := 7) (wc := [(xo, .inr (7, [.ref o1, .int (nI k_10)])), (o1, .inl (cJ, 64, .inr (.inl f_11)))]) ⟨hx, hb, hml, hown, hts⟩ (cwV 1 hts gX8_thrift_X7_add rfl rfl rfl (by decide +kernel) ⟨Nat.le_of_ble_eq_true rfl, Nat.le_of_ble_eq_true rfl⟩) hN hK hP hD [3, 4] rfl (by decide) rfl 3 rfl rfl rfl rfl hl.1 rfl (Nat.le_of_ble_eq_true rfl) dX8_thrift_45 ⟨Nat.le_of_ble_eq_true rfl, Nat.le_of_ble_eq_true rfl⟩  ((k_X7_add l D cI cJ xo o1 k_10 f_11 ((f_1 3).toInt64) (by first | omega | decide +kernel)) _)) (fun u H locs hp hP hD hS => ?_)
          obtain ⟨k_14, f_15, rfl, ha_16, hb_17⟩ := hp
          have hP : va_P D vwCl [(x0, .inr (8, [.ref xn, .int 0, .ref xl, .ref xt, .ref xo, .ref xf, .ref xs, .ref xp, .ref xq, .ref xr, .ref xc])), (xr, .inr (2, [.ref r1, .ref r2, .ref r3, .ref r4, .ref r5, .int 0, .int 0, .int 0, .int 1])), (r5, .inl (cI, 8, .inl f_1)), (xo, .inr (7, [.ref o1, .int (nI k_14)])), (o1, .inl (cJ, 64, .inr (.inl f_15)))] H := hP
          have hD : va_D A [(x0, .inr (8, [.ref xn, .int 0, .ref xl, .ref xt, .ref xo, .ref xf, .ref xs, .ref xp, .ref xq, .ref xr, .ref xc])), (xr, .inr (2, [.ref r1, .ref r2, .ref r3, .ref r4, .ref r5, .int 0, .int 0, .int 0, .int 1])), (r5, .inl (cI, 8, .inl f_1)), (xo, .inr (7, [.ref o1, .int (nI k_14)])), (o1, .inl (cJ, 64, .inr (.inl f_15)))] := hD
          refine lv_iinc (v := 4) (lv' := [(2, .int 4), (1, .int 0), (0, .ref x0)]) hx hb dX8_thrift_48 hl (k := 0) rfl (by decide +kernel) (by decide) rfl (fun ls hl => ?_)
          refine lv_goto (tgt := 25) hx hb dX8_thrift_51 (by decide) ?_
          refine lv_iload_n hx hb dX8_thrift_25 rfl (lv_at hl 0 rfl) ?_
          refine lv_bipush (v := 8) hx hb dX8_thrift_26 (by decide +kernel) ?_
          refine lv_icmp_ge (tgt := 54) hx hb dX8_thrift_28 (by decide) (fun c28 => ?_) (fun c28 => ?_)
          ·
            exact absurd c28 (by decide +kernel)
          ·
            refine lv_aload_n hx hb dX8_thrift_31 rfl (lv_at hl 2 rfl) ?_
            refine va_get (ci := 8) (v := .ref xo) (C := RX8) (T := TX8) (N := 11) hx hb hts hi8 hown hK hP 0 rfl rfl 4 (by decide) fl34 (fun _ h9 => h9) rfl dX8_thrift_32 ?_
            refine lv_aload_n hx hb dX8_thrift_35 rfl (lv_at hl 2 rfl) ?_
            refine va_get (ci := 8) (v := .ref xr) (C := RX8) (T := TX8) (N := 11) hx hb hts hi8 hown hK hP 0 rfl rfl 9 (by decide) fl65 (fun _ h9 => h9) rfl dX8_thrift_36 ?_
            refine va_getN (ci := 2) (v := .ref r5) (C := RX2) (T := TX2) (N := 9) hx hb hts hi2 hown hK hP 1 rfl rfl 4 (by decide) (nw_f_RX8_161 hN) (fun _ h9 => h9) rfl dX8_thrift_39 ?_
            refine lv_iload_n hx hb dX8_thrift_42 rfl (lv_at hl 0 rfl) ?_
            refine va_iald hx hb hK hP 2 0 rfl rfl (vp_in_nI (n := 4) (by omega) (by omega)) dX8_thrift_43 ?_
            refine my_eqi (y := f_1 4) (congrArg f_1 (show (4 : Int32).toNatClampNeg = 4 by decide +kernel)) ?_
            refine lv_i2l (v := (f_1 4).toInt64) hx hb dX8_thrift_44 rfl ?_
            refine my_goV (wr := [(x0, .inr (8, [.ref xn, .int 0, .ref xl, .ref xt, .ref xo, .ref xf, .ref xs, .ref xp, .ref xq, .ref xr, .ref xc])), (xr, .inr (2, [.ref r1, .ref r2, .ref r3, .ref r4, .ref r5, .int 0, .int 0, .int 0, .int 1])), (r5, .inl (cI, 8, .inl f_1))]) hP hD hS hA [3, 4] [0, 1, 2] rfl rfl (by decide) (by decide) (my_cV (As := [.long ((f_1 4).toInt64)]) (rest := []) (ci := 7) (wc := [(xo, .inr (7, [.ref o1, .int (nI k_14)])), (o1, .inl (cJ, 64, .inr (.inl f_15)))]) ⟨hx, hb, hml, hown, hts⟩ (cwV 1 hts gX8_thrift_X7_add rfl rfl rfl (by decide +kernel) ⟨Nat.le_of_ble_eq_true rfl, Nat.le_of_ble_eq_true rfl⟩) hN hK hP hD [3, 4] rfl (by decide) rfl 3 rfl rfl rfl rfl hl.1 rfl (Nat.le_of_ble_eq_true rfl) dX8_thrift_45 ⟨Nat.le_of_ble_eq_true rfl, Nat.le_of_ble_eq_true rfl⟩  ((k_X7_add l D cI cJ xo o1 k_14 f_15 ((f_1 4).toInt64) (by first | omega | decide +kernel)) _)) (fun u H locs hp hP hD hS => ?_)
            obtain ⟨k_18, f_19, rfl, ha_20, hb_21⟩ := hp
            have hP : va_P D vwCl [(x0, .inr (8, [.ref xn, .int 0, .ref xl, .ref xt, .ref xo, .ref xf, .ref xs, .ref xp, .ref xq, .ref xr, .ref xc])), (xr, .inr (2, [.ref r1, .ref r2, .ref r3, .ref r4, .ref r5, .int 0, .int 0, .int 0, .int 1])), (r5, .inl (cI, 8, .inl f_1)), (xo, .inr (7, [.ref o1, .int (nI k_18)])), (o1, .inl (cJ, 64, .inr (.inl f_19)))] H := hP
            have hD : va_D A [(x0, .inr (8, [.ref xn, .int 0, .ref xl, .ref xt, .ref xo, .ref xf, .ref xs, .ref xp, .ref xq, .ref xr, .ref xc])), (xr, .inr (2, [.ref r1, .ref r2, .ref r3, .ref r4, .ref r5, .int 0, .int 0, .int 0, .int 1])), (r5, .inl (cI, 8, .inl f_1)), (xo, .inr (7, [.ref o1, .int (nI k_18)])), (o1, .inl (cJ, 64, .inr (.inl f_19)))] := hD
            refine lv_iinc (v := 5) (lv' := [(2, .int 5), (1, .int 0), (0, .ref x0)]) hx hb dX8_thrift_48 hl (k := 0) rfl (by decide +kernel) (by decide) rfl (fun ls hl => ?_)
            refine lv_goto (tgt := 25) hx hb dX8_thrift_51 (by decide) ?_
            refine lv_iload_n hx hb dX8_thrift_25 rfl (lv_at hl 0 rfl) ?_
            refine lv_bipush (v := 8) hx hb dX8_thrift_26 (by decide +kernel) ?_
            refine lv_icmp_ge (tgt := 54) hx hb dX8_thrift_28 (by decide) (fun c28 => ?_) (fun c28 => ?_)
            ·
              exact absurd c28 (by decide +kernel)
            ·
              refine lv_aload_n hx hb dX8_thrift_31 rfl (lv_at hl 2 rfl) ?_
              refine va_get (ci := 8) (v := .ref xo) (C := RX8) (T := TX8) (N := 11) hx hb hts hi8 hown hK hP 0 rfl rfl 4 (by decide) fl34 (fun _ h9 => h9) rfl dX8_thrift_32 ?_
              refine lv_aload_n hx hb dX8_thrift_35 rfl (lv_at hl 2 rfl) ?_
              refine va_get (ci := 8) (v := .ref xr) (C := RX8) (T := TX8) (N := 11) hx hb hts hi8 hown hK hP 0 rfl rfl 9 (by decide) fl65 (fun _ h9 => h9) rfl dX8_thrift_36 ?_
              refine va_getN (ci := 2) (v := .ref r5) (C := RX2) (T := TX2) (N := 9) hx hb hts hi2 hown hK hP 1 rfl rfl 4 (by decide) (nw_f_RX8_161 hN) (fun _ h9 => h9) rfl dX8_thrift_39 ?_
              refine lv_iload_n hx hb dX8_thrift_42 rfl (lv_at hl 0 rfl) ?_
              refine va_iald hx hb hK hP 2 0 rfl rfl (vp_in_nI (n := 5) (by omega) (by omega)) dX8_thrift_43 ?_
              refine my_eqi (y := f_1 5) (congrArg f_1 (show (5 : Int32).toNatClampNeg = 5 by decide +kernel)) ?_
              refine lv_i2l (v := (f_1 5).toInt64) hx hb dX8_thrift_44 rfl ?_
              refine my_goV (wr := [(x0, .inr (8, [.ref xn, .int 0, .ref xl, .ref xt, .ref xo, .ref xf, .ref xs, .ref xp, .ref xq, .ref xr, .ref xc])), (xr, .inr (2, [.ref r1, .ref r2, .ref r3, .ref r4, .ref r5, .int 0, .int 0, .int 0, .int 1])), (r5, .inl (cI, 8, .inl f_1))]) hP hD hS hA [3, 4] [0, 1, 2] rfl rfl (by decide) (by decide) (my_cV (As := [.long ((f_1 5).toInt64)]) (rest := []) (ci := 7) (wc := [(xo, .inr (7, [.ref o1, .int (nI k_18)])), (o1, .inl (cJ, 64, .inr (.inl f_19)))]) ⟨hx, hb, hml, hown, hts⟩ (cwV 1 hts gX8_thrift_X7_add rfl rfl rfl (by decide +kernel) ⟨Nat.le_of_ble_eq_true rfl, Nat.le_of_ble_eq_true rfl⟩) hN hK hP hD [3, 4] rfl (by decide) rfl 3 rfl rfl rfl rfl hl.1 rfl (Nat.le_of_ble_eq_true rfl) dX8_thrift_45 ⟨Nat.le_of_ble_eq_true rfl, Nat.le_of_ble_eq_true rfl⟩  ((k_X7_add l D cI cJ xo o1 k_18 f_19 ((f_1 5).toInt64) (by first | omega | decide +kernel)) _)) (fun u H locs hp hP hD hS => ?_)
              obtain ⟨k_22, f_23, rfl, ha_24, hb_25⟩ := hp
              have hP : va_P D vwCl [(x0, .inr (8, [.ref xn, .int 0, .ref xl, .ref xt, .ref xo, .ref xf, .ref xs, .ref xp, .ref xq, .ref xr, .ref xc])), (xr, .inr (2, [.ref r1, .ref r2, .ref r3, .ref r4, .ref r5, .int 0, .int 0, .int 0, .int 1])), (r5, .inl (cI, 8, .inl f_1)), (xo, .inr (7, [.ref o1, .int (nI k_22)])), (o1, .inl (cJ, 64, .inr (.inl f_23)))] H := hP
              have hD : va_D A [(x0, .inr (8, [.ref xn, .int 0, .ref xl, .ref xt, .ref xo, .ref xf, .ref xs, .ref xp, .ref xq, .ref xr, .ref xc])), (xr, .inr (2, [.ref r1, .ref r2, .ref r3, .ref r4, .ref r5, .int 0, .int 0, .int 0, .int 1])), (r5, .inl (cI, 8, .inl f_1)), (xo, .inr (7, [.ref o1, .int (nI k_22)])), (o1, .inl (cJ, 64, .inr (.inl f_23)))] := hD
              refine lv_iinc (v := 6) (lv' := [(2, .int 6), (1, .int 0), (0, .ref x0)]) hx hb dX8_thrift_48 hl (k := 0) rfl (by decide +kernel) (by decide) rfl (fun ls hl => ?_)
              refine lv_goto (tgt := 25) hx hb dX8_thrift_51 (by decide) ?_
              refine lv_iload_n hx hb dX8_thrift_25 rfl (lv_at hl 0 rfl) ?_
              refine lv_bipush (v := 8) hx hb dX8_thrift_26 (by decide +kernel) ?_
              refine lv_icmp_ge (tgt := 54) hx hb dX8_thrift_28 (by decide) (fun c28 => ?_) (fun c28 => ?_)
              ·
                exact absurd c28 (by decide +kernel)
              ·
                refine lv_aload_n hx hb dX8_thrift_31 rfl (lv_at hl 2 rfl) ?_
                refine va_get (ci := 8) (v := .ref xo) (C := RX8) (T := TX8) (N := 11) hx hb hts hi8 hown hK hP 0 rfl rfl 4 (by decide) fl34 (fun _ h9 => h9) rfl dX8_thrift_32 ?_
                refine lv_aload_n hx hb dX8_thrift_35 rfl (lv_at hl 2 rfl) ?_
                refine va_get (ci := 8) (v := .ref xr) (C := RX8) (T := TX8) (N := 11) hx hb hts hi8 hown hK hP 0 rfl rfl 9 (by decide) fl65 (fun _ h9 => h9) rfl dX8_thrift_36 ?_
                refine va_getN (ci := 2) (v := .ref r5) (C := RX2) (T := TX2) (N := 9) hx hb hts hi2 hown hK hP 1 rfl rfl 4 (by decide) (nw_f_RX8_161 hN) (fun _ h9 => h9) rfl dX8_thrift_39 ?_
                refine lv_iload_n hx hb dX8_thrift_42 rfl (lv_at hl 0 rfl) ?_
                refine va_iald hx hb hK hP 2 0 rfl rfl (vp_in_nI (n := 6) (by omega) (by omega)) dX8_thrift_43 ?_
                refine my_eqi (y := f_1 6) (congrArg f_1 (show (6 : Int32).toNatClampNeg = 6 by decide +kernel)) ?_
                refine lv_i2l (v := (f_1 6).toInt64) hx hb dX8_thrift_44 rfl ?_
                refine my_goV (wr := [(x0, .inr (8, [.ref xn, .int 0, .ref xl, .ref xt, .ref xo, .ref xf, .ref xs, .ref xp, .ref xq, .ref xr, .ref xc])), (xr, .inr (2, [.ref r1, .ref r2, .ref r3, .ref r4, .ref r5, .int 0, .int 0, .int 0, .int 1])), (r5, .inl (cI, 8, .inl f_1))]) hP hD hS hA [3, 4] [0, 1, 2] rfl rfl (by decide) (by decide) (my_cV (As := [.long ((f_1 6).toInt64)]) (rest := []) (ci := 7) (wc := [(xo, .inr (7, [.ref o1, .int (nI k_22)])), (o1, .inl (cJ, 64, .inr (.inl f_23)))]) ⟨hx, hb, hml, hown, hts⟩ (cwV 1 hts gX8_thrift_X7_add rfl rfl rfl (by decide +kernel) ⟨Nat.le_of_ble_eq_true rfl, Nat.le_of_ble_eq_true rfl⟩) hN hK hP hD [3, 4] rfl (by decide) rfl 3 rfl rfl rfl rfl hl.1 rfl (Nat.le_of_ble_eq_true rfl) dX8_thrift_45 ⟨Nat.le_of_ble_eq_true rfl, Nat.le_of_ble_eq_true rfl⟩  ((k_X7_add l D cI cJ xo o1 k_22 f_23 ((f_1 6).toInt64) (by first | omega | decide +kernel)) _)) (fun u H locs hp hP hD hS => ?_)
                obtain ⟨k_26, f_27, rfl, ha_28, hb_29⟩ := hp
                have hP : va_P D vwCl [(x0, .inr (8, [.ref xn, .int 0, .ref xl, .ref xt, .ref xo, .ref xf, .ref xs, .ref xp, .ref xq, .ref xr, .ref xc])), (xr, .inr (2, [.ref r1, .ref r2, .ref r3, .ref r4, .ref r5, .int 0, .int 0, .int 0, .int 1])), (r5, .inl (cI, 8, .inl f_1)), (xo, .inr (7, [.ref o1, .int (nI k_26)])), (o1, .inl (cJ, 64, .inr (.inl f_27)))] H := hP
                have hD : va_D A [(x0, .inr (8, [.ref xn, .int 0, .ref xl, .ref xt, .ref xo, .ref xf, .ref xs, .ref xp, .ref xq, .ref xr, .ref xc])), (xr, .inr (2, [.ref r1, .ref r2, .ref r3, .ref r4, .ref r5, .int 0, .int 0, .int 0, .int 1])), (r5, .inl (cI, 8, .inl f_1)), (xo, .inr (7, [.ref o1, .int (nI k_26)])), (o1, .inl (cJ, 64, .inr (.inl f_27)))] := hD
                refine lv_iinc (v := 7) (lv' := [(2, .int 7), (1, .int 0), (0, .ref x0)]) hx hb dX8_thrift_48 hl (k := 0) rfl (by decide +kernel) (by decide) rfl (fun ls hl => ?_)
                refine lv_goto (tgt := 25) hx hb dX8_thrift_51 (by decide) ?_
                refine lv_iload_n hx hb dX8_thrift_25 rfl (lv_at hl 0 rfl) ?_
                refine lv_bipush (v := 8) hx hb dX8_thrift_26 (by decide +kernel) ?_
                refine lv_icmp_ge (tgt := 54) hx hb dX8_thrift_28 (by decide) (fun c28 => ?_) (fun c28 => ?_)
                ·
                  exact absurd c28 (by decide +kernel)
                ·
                  refine lv_aload_n hx hb dX8_thrift_31 rfl (lv_at hl 2 rfl) ?_
                  refine va_get (ci := 8) (v := .ref xo) (C := RX8) (T := TX8) (N := 11) hx hb hts hi8 hown hK hP 0 rfl rfl 4 (by decide) fl34 (fun _ h9 => h9) rfl dX8_thrift_32 ?_
                  refine lv_aload_n hx hb dX8_thrift_35 rfl (lv_at hl 2 rfl) ?_
                  refine va_get (ci := 8) (v := .ref xr) (C := RX8) (T := TX8) (N := 11) hx hb hts hi8 hown hK hP 0 rfl rfl 9 (by decide) fl65 (fun _ h9 => h9) rfl dX8_thrift_36 ?_
                  refine va_getN (ci := 2) (v := .ref r5) (C := RX2) (T := TX2) (N := 9) hx hb hts hi2 hown hK hP 1 rfl rfl 4 (by decide) (nw_f_RX8_161 hN) (fun _ h9 => h9) rfl dX8_thrift_39 ?_
                  refine lv_iload_n hx hb dX8_thrift_42 rfl (lv_at hl 0 rfl) ?_
                  refine va_iald hx hb hK hP 2 0 rfl rfl (vp_in_nI (n := 7) (by omega) (by omega)) dX8_thrift_43 ?_
                  refine my_eqi (y := f_1 7) (congrArg f_1 (show (7 : Int32).toNatClampNeg = 7 by decide +kernel)) ?_
                  refine lv_i2l (v := (f_1 7).toInt64) hx hb dX8_thrift_44 rfl ?_
                  refine my_goV (wr := [(x0, .inr (8, [.ref xn, .int 0, .ref xl, .ref xt, .ref xo, .ref xf, .ref xs, .ref xp, .ref xq, .ref xr, .ref xc])), (xr, .inr (2, [.ref r1, .ref r2, .ref r3, .ref r4, .ref r5, .int 0, .int 0, .int 0, .int 1])), (r5, .inl (cI, 8, .inl f_1))]) hP hD hS hA [3, 4] [0, 1, 2] rfl rfl (by decide) (by decide) (my_cV (As := [.long ((f_1 7).toInt64)]) (rest := []) (ci := 7) (wc := [(xo, .inr (7, [.ref o1, .int (nI k_26)])), (o1, .inl (cJ, 64, .inr (.inl f_27)))]) ⟨hx, hb, hml, hown, hts⟩ (cwV 1 hts gX8_thrift_X7_add rfl rfl rfl (by decide +kernel) ⟨Nat.le_of_ble_eq_true rfl, Nat.le_of_ble_eq_true rfl⟩) hN hK hP hD [3, 4] rfl (by decide) rfl 3 rfl rfl rfl rfl hl.1 rfl (Nat.le_of_ble_eq_true rfl) dX8_thrift_45 ⟨Nat.le_of_ble_eq_true rfl, Nat.le_of_ble_eq_true rfl⟩  ((k_X7_add l D cI cJ xo o1 k_26 f_27 ((f_1 7).toInt64) (by first | omega | decide +kernel)) _)) (fun u H locs hp hP hD hS => ?_)
                  obtain ⟨k_30, f_31, rfl, ha_32, hb_33⟩ := hp
                  have hP : va_P D vwCl [(x0, .inr (8, [.ref xn, .int 0, .ref xl, .ref xt, .ref xo, .ref xf, .ref xs, .ref xp, .ref xq, .ref xr, .ref xc])), (xr, .inr (2, [.ref r1, .ref r2, .ref r3, .ref r4, .ref r5, .int 0, .int 0, .int 0, .int 1])), (r5, .inl (cI, 8, .inl f_1)), (xo, .inr (7, [.ref o1, .int (nI k_30)])), (o1, .inl (cJ, 64, .inr (.inl f_31)))] H := hP
                  have hD : va_D A [(x0, .inr (8, [.ref xn, .int 0, .ref xl, .ref xt, .ref xo, .ref xf, .ref xs, .ref xp, .ref xq, .ref xr, .ref xc])), (xr, .inr (2, [.ref r1, .ref r2, .ref r3, .ref r4, .ref r5, .int 0, .int 0, .int 0, .int 1])), (r5, .inl (cI, 8, .inl f_1)), (xo, .inr (7, [.ref o1, .int (nI k_30)])), (o1, .inl (cJ, 64, .inr (.inl f_31)))] := hD
                  refine lv_iinc (v := 8) (lv' := [(2, .int 8), (1, .int 0), (0, .ref x0)]) hx hb dX8_thrift_48 hl (k := 0) rfl (by decide +kernel) (by decide) rfl (fun ls hl => ?_)
                  refine lv_goto (tgt := 25) hx hb dX8_thrift_51 (by decide) ?_
                  refine lv_iload_n hx hb dX8_thrift_25 rfl (lv_at hl 0 rfl) ?_
                  refine lv_bipush (v := 8) hx hb dX8_thrift_26 (by decide +kernel) ?_
                  refine lv_icmp_ge (tgt := 54) hx hb dX8_thrift_28 (by decide) (fun c28 => ?_) (fun c28 => ?_)
                  ·
                    refine lv_iload_n hx hb dX8_thrift_54 rfl (lv_at hl 1 rfl) ?_
                    exact my_retI hx hb hr hlocks hK hS [] (hP.sub [] rfl) (hD.sub [] (by decide) rfl) (⟨rfl, rfl⟩) dX8_thrift_55
                  ·
                    exact absurd c28 (by decide +kernel)
set_option maxHeartbeats 4000000 in
set_option maxRecDepth 100000 in
theorem k0_X8_kth (l : Launch) (D : va_G) (cI cJ : ClassId) (x0 : Nat) (xn : Nat) (xl : Nat) (xt : Nat) (xo : Nat) (xf : Nat) (xs : Nat) (xp : Nat) (xq : Nat) (xr : Nat) (xc : Nat) (l9 : Int32) (r9 : Int32) (k9 : Int32) : ctI l yX8_kth wsX8_kth ({ frames := 1, cells := 0, slots := 0, locals := 60 } : Room) D (tyIJ cI cJ) [.ref x0, .int l9, .int r9, .int k9] [(x0, .inr (8, [.ref xn, .int 0, .ref xl, .ref xt, .ref xo, .ref xf, .ref xs, .ref xp, .ref xq, .ref xr, .ref xc]))] (fun (r : Int32) (u : va_W) => (u = [] ∧ r = (-2) ∧ l9.toInt = 0 ∧ r9.toInt = 0 ∧ 0 ≤ k9.toInt) ∨ (u = [] ∧ r = (-1) ∧ (l9.toInt < 0 ∨ r9.toInt < l9.toInt ∨ 0 < r9.toInt ∨ k9.toInt < 0))) := by
  refine ctI.of (cc := cX8_kth) (maxL := 5) (ret := (some .int)) (by decide) rfl (Nat.le_of_ble_eq_true rfl) ?_
  intro p e s m below meth c ls A hx hb hr hts hown hml hlocks hname hA hK hN hP hD hS hl
  have hl : lv_has ls 5 [(0, .ref x0), (1, .int l9), (2, .int r9), (3, .int k9)] := hl
  have hown : s.vm.findClass RX8 = some m.cls := hown
  refine lv_aload_n hx hb dX8_kth_0 rfl (lv_at hl 0 rfl) ?_
  refine lv_iload_n hx hb dX8_kth_1 rfl (lv_at hl 1 rfl) ?_
  refine lv_iload_n hx hb dX8_kth_2 rfl (lv_at hl 2 rfl) ?_
  refine my_gpI (my_pV (As := [.int l9, .int r9]) (rest := []) (ci := 8) ⟨hx, hb, hml, hown, hts⟩ (cwV 2 hts gX8_kth_X8_isSpan rfl rfl rfl (by decide +kernel) ⟨Nat.le_of_ble_eq_true rfl, Nat.le_of_ble_eq_true rfl⟩) hN hK hP [0] rfl 0 rfl rfl rfl rfl hl.1 rfl (Nat.le_of_ble_eq_true rfl) dX8_kth_3 ⟨Nat.le_of_ble_eq_true rfl, Nat.le_of_ble_eq_true rfl⟩  (k0_X8_isSpan l D cI cJ x0 xn xl xt xo xf xs xp xq xr xc l9 r9)) (fun r hp => ?_)
  rcases hp with ⟨rfl, rfl, rfl⟩ | ⟨rfl, ha_1⟩
  ·
    refine lv_if_eq (tgt := 13) hx hb dX8_kth_6 (by decide) (fun c6 => ?_) (fun c6 => ?_)
    ·
      exact absurd c6 (by decide +kernel)
    ·
      refine lv_iload_n hx hb dX8_kth_9 rfl (lv_at hl 3 rfl) ?_
      refine lv_if_ge (tgt := 15) hx hb dX8_kth_10 (by decide) (fun c10 => ?_) (fun c10 => ?_)
      ·
        have d10 : k9.toInt ≥ (0 : Int) := my_ge c10 rfl (by decide +kernel)
        refine lv_iload_n hx hb dX8_kth_15 rfl (lv_at hl 3 rfl) ?_
        refine lv_iload_n hx hb dX8_kth_16 rfl (lv_at hl 2 rfl) ?_
        refine lv_iload_n hx hb dX8_kth_17 rfl (lv_at hl 1 rfl) ?_
        refine lv_isub hx hb dX8_kth_18 ?_
        refine my_eqi (y := 0) (by decide +kernel) ?_
        refine lv_icmp_lt (tgt := 25) hx hb dX8_kth_19 (by decide) (fun c19 => ?_) (fun c19 => ?_)
        ·
          have d19 : k9.toInt < (0 : Int) := my_lt c19 rfl (by decide +kernel)
          exact absurd d19 (by omega)
        ·
          have d19 : k9.toInt ≥ (0 : Int) := my_nlt c19 rfl (by decide +kernel)
          refine lv_bipush (v := (-2)) hx hb dX8_kth_22 (by decide +kernel) ?_
          exact my_retI hx hb hr hlocks hK hS [] (hP.sub [] rfl) (hD.sub [] (by decide) rfl) (Or.inl ⟨rfl, rfl, (by first | omega | assumption | trivial | decide +kernel), (by first | omega | assumption | trivial | decide +kernel), (by first | omega | assumption | trivial | decide +kernel)⟩) dX8_kth_24
      ·
        have d10 : k9.toInt < (0 : Int) := my_nge c10 rfl (by decide +kernel)
        refine lv_iconst (v := (-1)) hx hb dX8_kth_13 (by decide +kernel) ?_
        exact my_retI hx hb hr hlocks hK hS [] (hP.sub [] rfl) (hD.sub [] (by decide) rfl) (Or.inr (⟨rfl, rfl, (by first | omega | assumption | trivial | decide +kernel)⟩)) dX8_kth_14
  ·
    refine lv_if_eq (tgt := 13) hx hb dX8_kth_6 (by decide) (fun c6 => ?_) (fun c6 => ?_)
    ·
      refine lv_iconst (v := (-1)) hx hb dX8_kth_13 (by decide +kernel) ?_
      exact my_retI hx hb hr hlocks hK hS [] (hP.sub [] rfl) (hD.sub [] (by decide) rfl) (Or.inr (⟨rfl, rfl, (by first | omega | assumption | trivial | decide +kernel)⟩)) dX8_kth_14
    ·
      exact absurd c6 (by decide +kernel)
set_option maxHeartbeats 4000000 in
set_option maxRecDepth 100000 in
theorem k0_X8_rank (l : Launch) (D : va_G) (cI cJ : ClassId) (x0 : Nat) (xn : Nat) (xl : Nat) (xt : Nat) (xo : Nat) (xf : Nat) (xs : Nat) (xp : Nat) (xq : Nat) (xr : Nat) (xc : Nat) (v9 : Int32) (i9 : Int32) : ctI l yX8_rank wsX8_rank ({ frames := 1, cells := 0, slots := 0, locals := 60 } : Room) D (tyIJ cI cJ) [.ref x0, .int v9, .int i9] [(x0, .inr (8, [.ref xn, .int 0, .ref xl, .ref xt, .ref xo, .ref xf, .ref xs, .ref xp, .ref xq, .ref xr, .ref xc]))] (fun (r : Int32) (u : va_W) => (u = [] ∧ r = 0 ∧ 0 ≤ v9.toInt ∧ v9.toInt ≤ 255 ∧ i9.toInt = 0) ∨ (u = [] ∧ r = (-1) ∧ (v9.toInt < 0 ∨ 255 < v9.toInt ∨ i9.toInt < 0 ∨ 0 < i9.toInt))) := by
  refine ctI.of (cc := cX8_rank) (maxL := 3) (ret := (some .int)) (by decide) rfl (Nat.le_of_ble_eq_true rfl) ?_
  intro p e s m below meth c ls A hx hb hr hts hown hml hlocks hname hA hK hN hP hD hS hl
  have hl : lv_has ls 3 [(0, .ref x0), (1, .int v9), (2, .int i9)] := hl
  have hown : s.vm.findClass RX8 = some m.cls := hown
  have hi8 : ∀ w ∈ u_ws RX8 TX8 11, w ∈ wsX8_rank := by decide +kernel
  have fl13 := hts (.fieldLink RX8 13 "PlaneColumn" "size" "I") (by decide +kernel)
  refine lv_iload_n hx hb dX8_rank_0 rfl (lv_at hl 1 rfl) ?_
  refine my_gpI (my_pS (As := [.int v9]) (rest := []) ⟨hx, hb, hml, hown, hts⟩ (va_cwS 1 hts gX8_rank_X8_isNumber rfl rfl rfl (by decide +kernel) ⟨Nat.le_of_ble_eq_true rfl, Nat.le_of_ble_eq_true rfl⟩) hN hK hP [] rfl rfl hl.1 rfl (Nat.le_of_ble_eq_true rfl) dX8_rank_1 ⟨Nat.le_of_ble_eq_true rfl, Nat.le_of_ble_eq_true rfl⟩  (k_X8_isNumber l D cI cJ v9)) (fun r hp => ?_)
  rcases hp with ⟨rfl, hgv_1, hlv_2⟩ | ⟨rfl, ho_3⟩
  ·
    refine lv_if_eq (tgt := 19) hx hb dX8_rank_4 (by decide) (fun c4 => ?_) (fun c4 => ?_)
    ·
      exact absurd c4 (by decide +kernel)
    ·
      refine lv_iload_n hx hb dX8_rank_7 rfl (lv_at hl 2 rfl) ?_
      refine lv_if_lt (tgt := 19) hx hb dX8_rank_8 (by decide) (fun c8 => ?_) (fun c8 => ?_)
      ·
        have d8 : i9.toInt < (0 : Int) := my_lt c8 rfl (by decide +kernel)
        refine lv_iconst (v := (-1)) hx hb dX8_rank_19 (by decide +kernel) ?_
        exact my_retI hx hb hr hlocks hK hS [] (hP.sub [] rfl) (hD.sub [] (by decide) rfl) (Or.inr (⟨rfl, rfl, (by first | omega | assumption | trivial | decide +kernel)⟩)) dX8_rank_20
      ·
        have d8 : i9.toInt ≥ (0 : Int) := my_nlt c8 rfl (by decide +kernel)
        refine lv_iload_n hx hb dX8_rank_11 rfl (lv_at hl 2 rfl) ?_
        refine lv_aload_n hx hb dX8_rank_12 rfl (lv_at hl 0 rfl) ?_
        refine va_get (ci := 8) (v := .int 0) (C := RX8) (T := TX8) (N := 11) hx hb hts hi8 hown hK hP 0 rfl rfl 1 (by decide) fl13 (fun _ h9 => h9) rfl dX8_rank_13 ?_
        refine lv_icmp_le (tgt := 21) hx hb dX8_rank_16 (by decide) (fun c16 => ?_) (fun c16 => ?_)
        ·
          have d16 : i9.toInt ≤ (0 : Int) := my_le c16 rfl (by decide +kernel)
          obtain rfl : i9 = 0 := my_eqI (a := 0) (by omega) (by decide +kernel)
          refine lv_aload_n hx hb dX8_rank_21 rfl (lv_at hl 0 rfl) ?_
          refine lv_iload_n hx hb dX8_rank_22 rfl (lv_at hl 1 rfl) ?_
          refine lv_iconst (v := 0) hx hb dX8_rank_23 (by decide +kernel) ?_
          refine lv_iload_n hx hb dX8_rank_24 rfl (lv_at hl 2 rfl) ?_
          refine my_gpI (my_pV (As := [.int v9, .int 0, .int 0]) (rest := []) (ci := 8) ⟨hx, hb, hml, hown, hts⟩ (cwV 3 hts gX8_rank_X8_timesIn rfl rfl rfl (by decide +kernel) ⟨Nat.le_of_ble_eq_true rfl, Nat.le_of_ble_eq_true rfl⟩) hN hK hP [0] rfl 0 rfl rfl rfl rfl hl.1 rfl (Nat.le_of_ble_eq_true rfl) dX8_rank_25 ⟨Nat.le_of_ble_eq_true rfl, Nat.le_of_ble_eq_true rfl⟩  (k0_X8_timesIn l D cI cJ x0 xn xl xt xo xf xs xp xq xr xc v9)) (fun r hp => ?_)
          obtain rfl := hp
          exact my_retI hx hb hr hlocks hK hS [] (hP.sub [] rfl) (hD.sub [] (by decide) rfl) (Or.inl ⟨rfl, rfl, (by first | omega | assumption | trivial | decide +kernel), (by first | omega | assumption | trivial | decide +kernel), (by first | omega | assumption | trivial | decide +kernel)⟩) dX8_rank_28
        ·
          have d16 : i9.toInt > (0 : Int) := my_nle c16 rfl (by decide +kernel)
          refine lv_iconst (v := (-1)) hx hb dX8_rank_19 (by decide +kernel) ?_
          exact my_retI hx hb hr hlocks hK hS [] (hP.sub [] rfl) (hD.sub [] (by decide) rfl) (Or.inr (⟨rfl, rfl, (by first | omega | assumption | trivial | decide +kernel)⟩)) dX8_rank_20
  ·
    refine lv_if_eq (tgt := 19) hx hb dX8_rank_4 (by decide) (fun c4 => ?_) (fun c4 => ?_)
    ·
      refine lv_iconst (v := (-1)) hx hb dX8_rank_19 (by decide +kernel) ?_
      exact my_retI hx hb hr hlocks hK hS [] (hP.sub [] rfl) (hD.sub [] (by decide) rfl) (Or.inr (⟨rfl, rfl, (by first | omega | assumption | trivial | decide +kernel)⟩)) dX8_rank_20
    ·
      exact absurd c4 (by decide +kernel)
set_option maxHeartbeats 4000000 in
set_option maxRecDepth 100000 in
theorem k0_X8_select (l : Launch) (D : va_G) (cI cJ : ClassId) (x0 : Nat) (xn : Nat) (xl : Nat) (xt : Nat) (xo : Nat) (xf : Nat) (xs : Nat) (xp : Nat) (xq : Nat) (xr : Nat) (xc : Nat) (v9 : Int32) (k9 : Int32) : ctI l yX8_select wsX8_select ({ frames := 1, cells := 0, slots := 0, locals := 60 } : Room) D (tyIJ cI cJ) [.ref x0, .int v9, .int k9] [(x0, .inr (8, [.ref xn, .int 0, .ref xl, .ref xt, .ref xo, .ref xf, .ref xs, .ref xp, .ref xq, .ref xr, .ref xc]))] (fun (r : Int32) (u : va_W) => (u = [] ∧ r = (-2) ∧ 0 ≤ v9.toInt ∧ v9.toInt ≤ 255 ∧ 0 ≤ k9.toInt) ∨ (u = [] ∧ r = (-1) ∧ (v9.toInt < 0 ∨ 255 < v9.toInt ∨ k9.toInt < 0))) := by
  refine ctI.of (cc := cX8_select) (maxL := 5) (ret := (some .int)) (by decide) rfl (Nat.le_of_ble_eq_true rfl) ?_
  intro p e s m below meth c ls A hx hb hr hts hown hml hlocks hname hA hK hN hP hD hS hl
  have hl : lv_has ls 5 [(0, .ref x0), (1, .int v9), (2, .int k9)] := hl
  have hown : s.vm.findClass RX8 = some m.cls := hown
  have hi8 : ∀ w ∈ u_ws RX8 TX8 11, w ∈ wsX8_select := by decide +kernel
  have fl13 := hts (.fieldLink RX8 13 "PlaneColumn" "size" "I") (by decide +kernel)
  refine lv_iload_n hx hb dX8_select_0 rfl (lv_at hl 1 rfl) ?_
  refine my_gpI (my_pS (As := [.int v9]) (rest := []) ⟨hx, hb, hml, hown, hts⟩ (va_cwS 1 hts gX8_select_X8_isNumber rfl rfl rfl (by decide +kernel) ⟨Nat.le_of_ble_eq_true rfl, Nat.le_of_ble_eq_true rfl⟩) hN hK hP [] rfl rfl hl.1 rfl (Nat.le_of_ble_eq_true rfl) dX8_select_1 ⟨Nat.le_of_ble_eq_true rfl, Nat.le_of_ble_eq_true rfl⟩  (k_X8_isNumber l D cI cJ v9)) (fun r hp => ?_)
  rcases hp with ⟨rfl, hgv_1, hlv_2⟩ | ⟨rfl, ho_3⟩
  ·
    refine lv_if_eq (tgt := 11) hx hb dX8_select_4 (by decide) (fun c4 => ?_) (fun c4 => ?_)
    ·
      exact absurd c4 (by decide +kernel)
    ·
      refine lv_iload_n hx hb dX8_select_7 rfl (lv_at hl 2 rfl) ?_
      refine lv_if_ge (tgt := 13) hx hb dX8_select_8 (by decide) (fun c8 => ?_) (fun c8 => ?_)
      ·
        have d8 : k9.toInt ≥ (0 : Int) := my_ge c8 rfl (by decide +kernel)
        refine lv_iconst (v := 0) hx hb dX8_select_13 (by decide +kernel) ?_
        refine lv_istore_n (lv' := [(3, .int 0), (0, .ref x0), (1, .int v9), (2, .int k9)]) hx hb dX8_select_14 rfl hl (by decide) rfl (fun ls hl => ?_)
        refine lv_iconst (v := 0) hx hb dX8_select_15 (by decide +kernel) ?_
        refine lv_istore (lv' := [(4, .int 0), (3, .int 0), (0, .ref x0), (1, .int v9), (2, .int k9)]) hx hb dX8_select_16 hl (by decide) rfl (fun ls hl => ?_)
        refine lv_iload hx hb dX8_select_18 (lv_at hl 0 rfl) ?_
        refine lv_aload_n hx hb dX8_select_20 rfl (lv_at hl 2 rfl) ?_
        refine va_get (ci := 8) (v := .int 0) (C := RX8) (T := TX8) (N := 11) hx hb hts hi8 hown hK hP 0 rfl rfl 1 (by decide) fl13 (fun _ h9 => h9) rfl dX8_select_21 ?_
        refine lv_icmp_ge (tgt := 55) hx hb dX8_select_24 (by decide) (fun c24 => ?_) (fun c24 => ?_)
        ·
          refine lv_bipush (v := (-2)) hx hb dX8_select_55 (by decide +kernel) ?_
          exact my_retI hx hb hr hlocks hK hS [] (hP.sub [] rfl) (hD.sub [] (by decide) rfl) (Or.inl ⟨rfl, rfl, (by first | omega | assumption | trivial | decide +kernel), (by first | omega | assumption | trivial | decide +kernel), (by first | omega | assumption | trivial | decide +kernel)⟩) dX8_select_57
        ·
          exact absurd c24 (by decide +kernel)
      ·
        have d8 : k9.toInt < (0 : Int) := my_nge c8 rfl (by decide +kernel)
        refine lv_iconst (v := (-1)) hx hb dX8_select_11 (by decide +kernel) ?_
        exact my_retI hx hb hr hlocks hK hS [] (hP.sub [] rfl) (hD.sub [] (by decide) rfl) (Or.inr (⟨rfl, rfl, (by first | omega | assumption | trivial | decide +kernel)⟩)) dX8_select_12
  ·
    refine lv_if_eq (tgt := 11) hx hb dX8_select_4 (by decide) (fun c4 => ?_) (fun c4 => ?_)
    ·
      refine lv_iconst (v := (-1)) hx hb dX8_select_11 (by decide +kernel) ?_
      exact my_retI hx hb hr hlocks hK hS [] (hP.sub [] rfl) (hD.sub [] (by decide) rfl) (Or.inr (⟨rfl, rfl, (by first | omega | assumption | trivial | decide +kernel)⟩)) dX8_select_12
    ·
      exact absurd c4 (by decide +kernel)
