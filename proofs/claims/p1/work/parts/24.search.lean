set_option maxHeartbeats 4000000 in
set_option maxRecDepth 100000 in
theorem k0_X2_takeLine (l : Launch) (D : va_G) (cI cJ : ClassId) (xr : Nat) (nn : Nat) (r1 : Nat) (r2 : Nat) (r3 : Nat) (r4 : Nat) (r5 : Nat) (r7 : Int32) (r8 : Int32) (z : Int32) : cpI l yX2_takeLine wsX2_takeLine ({ frames := 0, cells := 0, slots := 0, locals := 0 } : Room) D (tyIJ cI cJ) [.ref xr, .ref nn] [(xr, .inr (2, [.ref r1, .ref r2, .ref r3, .ref r4, .ref r5, .int 0, .int r7, .int r8, .int z]))] (fun (r : Int32) => r = 0) := by
  refine cpI.of (cc := cX2_takeLine) (maxL := 4) (ret := (some .int)) (by decide) rfl (Nat.le_of_ble_eq_true rfl) ?_
  intro p e s m below meth c ls hx hb hr hts hown hml hlocks hname hK hN hP hl
  have hl : lv_has ls 4 [(0, .ref xr), (1, .ref nn)] := hl
  have hown : s.vm.findClass RX2 = some m.cls := hown
  have hi2 : ∀ w ∈ u_ws RX2 TX2 9, w ∈ wsX2_takeLine := by decide +kernel
  have fl30 := hts (.fieldLink RX2 30 "PlaneColumn$OrderSearch" "size" "I") (by decide +kernel)
  refine lv_iconst (v := 0) hx hb dX2_takeLine_0 (by decide +kernel) ?_
  refine lv_istore_n (lv' := [(2, .int 0), (0, .ref xr), (1, .ref nn)]) hx hb dX2_takeLine_1 rfl hl (by decide) rfl (fun ls hl => ?_)
  refine lv_iconst (v := 0) hx hb dX2_takeLine_2 (by decide +kernel) ?_
  refine lv_istore_n (lv' := [(3, .int 0), (2, .int 0), (0, .ref xr), (1, .ref nn)]) hx hb dX2_takeLine_3 rfl hl (by decide) rfl (fun ls hl => ?_)
  refine lv_iload_n hx hb dX2_takeLine_4 rfl (lv_at hl 0 rfl) ?_
  refine lv_aload_n hx hb dX2_takeLine_5 rfl (lv_at hl 2 rfl) ?_
  refine va_get (ci := 2) (v := .int 0) (C := RX2) (T := TX2) (N := 9) hx hb hts hi2 hown hK hP 0 rfl rfl 5 (by decide) fl30 (fun _ h9 => h9) rfl dX2_takeLine_6 ?_
  refine lv_icmp_ge (tgt := 42) hx hb dX2_takeLine_9 (by decide) (fun c9 => ?_) (fun c9 => ?_)
  ·
    refine lv_iload_n hx hb dX2_takeLine_42 rfl (lv_at hl 1 rfl) ?_
    exact my_rpI hx hb hr hlocks (rfl) dX2_takeLine_43
  ·
    exact absurd c9 (by decide +kernel)
set_option maxHeartbeats 4000000 in
set_option maxRecDepth 100000 in
theorem k0_X2_tryBits (l : Launch) (D : va_G) (cI cJ : ClassId) (xr : Nat) (r1 : Nat) (r2 : Nat) (r3 : Nat) (r4 : Nat) (r5 : Nat) (r6 : Int32) (r8 : Int32) (z : Int32) : ctV l yX2_tryBits wsX2_tryBits ({ frames := 0, cells := 0, slots := 0, locals := 0 } : Room) D (tyIJ cI cJ) [.ref xr, .int 0, .int 0, .int 0] [(xr, .inr (2, [.ref r1, .ref r2, .ref r3, .ref r4, .ref r5, .int r6, .int 0, .int r8, .int z]))] (fun (u : va_W) => u = [(xr, .inr (2, [.ref r1, .ref r2, .ref r3, .ref r4, .ref r5, .int r6, .int 0, .int r8, .int z]))]) := by
  refine ctV.of (cc := cX2_tryBits) (maxL := 9) (ret := none) (by decide) rfl (Nat.le_of_ble_eq_true rfl) ?_
  intro p e s m below meth c ls A hx hb hr hts hown hml hlocks hname hA hK hN hP hD hS hl
  have hl : lv_has ls 9 [(0, .ref xr), (1, .int 0), (2, .int 0), (3, .int 0)] := hl
  have hown : s.vm.findClass RX2 = some m.cls := hown
  have hi2 : ∀ w ∈ u_ws RX2 TX2 9, w ∈ wsX2_tryBits := by decide +kernel
  have fl34 := hts (.fieldLink RX2 34 "PlaneColumn$OrderSearch" "variedCount" "I") (by decide +kernel)
  refine lv_iload_n hx hb dX2_tryBits_0 rfl (lv_at hl 1 rfl) ?_
  refine lv_aload_n hx hb dX2_tryBits_1 rfl (lv_at hl 0 rfl) ?_
  refine va_get (ci := 2) (v := .int 0) (C := RX2) (T := TX2) (N := 9) hx hb hts hi2 hown hK hP 0 rfl rfl 6 (by decide) fl34 (fun _ h9 => h9) rfl dX2_tryBits_2 ?_
  refine lv_icmp_ge (tgt := 14) hx hb dX2_tryBits_5 (by decide) (fun c5 => ?_) (fun c5 => ?_)
  ·
    exact my_retV hx hb hr hlocks hK hS [(xr, .inr (2, [.ref r1, .ref r2, .ref r3, .ref r4, .ref r5, .int r6, .int 0, .int r8, .int z]))] (hP.sub [0] rfl) (hD.sub [0] (by decide) rfl) (rfl) dX2_tryBits_14
  ·
    exact absurd c5 (by decide +kernel)
set_option maxHeartbeats 4000000 in
set_option maxRecDepth 100000 in
theorem k0_X2_fillOrder (l : Launch) (D : va_G) (cI cJ : ClassId) (xr : Nat) (r1 : Nat) (r2 : Nat) (r3 : Nat) (r4 : Nat) (r5 : Nat) (r6 : Int32) (r8 : Int32) (z : Int32) (f : Nat → Int32) (g : Nat → Int32) : ctV l yX2_fillOrder wsX2_fillOrder ({ frames := 2, cells := 0, slots := 0, locals := 120 } : Room) D (tyIJ cI cJ) [.ref xr, .int 0] [(xr, .inr (2, [.ref r1, .ref r2, .ref r3, .ref r4, .ref r5, .int r6, .int 0, .int r8, .int z])), (r4, .inl (cI, 8, .inl g)), (r5, .inl (cI, 8, .inl f))] (fun (u : va_W) => ∃ (f' : Nat → Int32), u = [(xr, .inr (2, [.ref r1, .ref r2, .ref r3, .ref r4, .ref r5, .int r6, .int 0, .int r8, .int z])), (r4, .inl (cI, 8, .inl g)), (r5, .inl (cI, 8, .inl f'))]) := by
  refine ctV.of (cc := cX2_fillOrder) (maxL := 5) (ret := none) (by decide) rfl (Nat.le_of_ble_eq_true rfl) ?_
  intro p e s m below meth c ls A hx hb hr hts hown hml hlocks hname hA hK hN hP hD hS hl
  have hl : lv_has ls 5 [(0, .ref xr), (1, .int 0)] := hl
  have hown : s.vm.findClass RX2 = some m.cls := hown
  have hi2 : ∀ w ∈ u_ws RX2 TX2 9, w ∈ wsX2_fillOrder := by decide +kernel
  have fl24 := hts (.fieldLink RX2 24 "PlaneColumn$OrderSearch" "best" "[I") (by decide +kernel)
  have fl27 := hts (.fieldLink RX2 27 "PlaneColumn$OrderSearch" "order" "[I") (by decide +kernel)
  have fl34 := hts (.fieldLink RX2 34 "PlaneColumn$OrderSearch" "variedCount" "I") (by decide +kernel)
  refine lv_iconst (v := 0) hx hb dX2_fillOrder_0 (by decide +kernel) ?_
  refine lv_istore_n (lv' := [(2, .int 0), (0, .ref xr), (1, .int 0)]) hx hb dX2_fillOrder_1 rfl hl (by decide) rfl (fun ls hl => ?_)
  refine lv_iconst (v := 0) hx hb dX2_fillOrder_2 (by decide +kernel) ?_
  refine lv_istore_n (lv' := [(3, .int 0), (2, .int 0), (0, .ref xr), (1, .int 0)]) hx hb dX2_fillOrder_3 rfl hl (by decide) rfl (fun ls hl => ?_)
  refine lv_bipush (v := 7) hx hb dX2_fillOrder_4 (by decide +kernel) ?_
  refine lv_istore (lv' := [(4, .int 7), (3, .int 0), (2, .int 0), (0, .ref xr), (1, .int 0)]) hx hb dX2_fillOrder_6 hl (by decide) rfl (fun ls hl => ?_)
  refine lv_iload hx hb dX2_fillOrder_8 (lv_at hl 0 rfl) ?_
  refine lv_if_lt (tgt := 79) hx hb dX2_fillOrder_10 (by decide) (fun c10 => ?_) (fun c10 => ?_)
  ·
    exact absurd c10 (by decide +kernel)
  ·
    refine lv_iload_n hx hb dX2_fillOrder_13 rfl (lv_at hl 4 rfl) ?_
    refine lv_iload hx hb dX2_fillOrder_14 (lv_at hl 0 rfl) ?_
    refine lv_ishr hx hb dX2_fillOrder_16 ?_
    refine my_eqi (y := 0) (by decide +kernel) ?_
    refine lv_iconst (v := 1) hx hb dX2_fillOrder_17 (by decide +kernel) ?_
    refine lv_iand hx hb dX2_fillOrder_18 ?_
    refine my_eqi (y := 0) (by decide +kernel) ?_
    refine lv_if_ne (tgt := 73) hx hb dX2_fillOrder_19 (by decide) (fun c19 => ?_) (fun c19 => ?_)
    ·
      exact absurd c19 (by decide +kernel)
    ·
      refine lv_iload_n hx hb dX2_fillOrder_22 rfl (lv_at hl 1 rfl) ?_
      refine lv_aload_n hx hb dX2_fillOrder_23 rfl (lv_at hl 3 rfl) ?_
      refine va_get (ci := 2) (v := .int 0) (C := RX2) (T := TX2) (N := 9) hx hb hts hi2 hown hK hP 0 rfl rfl 6 (by decide) fl34 (fun _ h9 => h9) rfl dX2_fillOrder_24 ?_
      refine lv_icmp_ge (tgt := 62) hx hb dX2_fillOrder_27 (by decide) (fun c27 => ?_) (fun c27 => ?_)
      ·
        refine lv_aload_n hx hb dX2_fillOrder_62 rfl (lv_at hl 3 rfl) ?_
        refine va_get (ci := 2) (v := .ref r5) (C := RX2) (T := TX2) (N := 9) hx hb hts hi2 hown hK hP 0 rfl rfl 4 (by decide) fl27 (fun _ h9 => h9) rfl dX2_fillOrder_63 ?_
        refine lv_iload_n hx hb dX2_fillOrder_66 rfl (lv_at hl 2 rfl) ?_
        refine lv_iload hx hb dX2_fillOrder_67 (lv_at hl 0 rfl) ?_
        refine va_iast hx hb hK hP hD hS 2 0 rfl rfl (vp_in_nI (n := 0) (by omega) (by omega)) dX2_fillOrder_69 (fun H locs hP hD hS => ?_)
        have eU : upd f (0 : Int32).toNatClampNeg 7 = upd f 0 7 := by rw [show (0 : Int32).toNatClampNeg = 0 from by decide +kernel]
        rw [eU] at hP hD
        have hP : va_P D vwCl [(xr, .inr (2, [.ref r1, .ref r2, .ref r3, .ref r4, .ref r5, .int r6, .int 0, .int r8, .int z])), (r4, .inl (cI, 8, .inl g)), (r5, .inl (cI, 8, .inl (upd f 0 7)))] H := hP
        have hD : va_D A [(xr, .inr (2, [.ref r1, .ref r2, .ref r3, .ref r4, .ref r5, .int r6, .int 0, .int r8, .int z])), (r4, .inl (cI, 8, .inl g)), (r5, .inl (cI, 8, .inl (upd f 0 7)))] := hD
        refine lv_iinc (v := 1) (lv' := [(2, .int 1), (4, .int 7), (3, .int 0), (0, .ref xr), (1, .int 0)]) hx hb dX2_fillOrder_70 hl (k := 2) rfl (by decide +kernel) (by decide) rfl (fun ls hl => ?_)
        refine lv_iinc (v := 6) (lv' := [(4, .int 6), (2, .int 1), (3, .int 0), (0, .ref xr), (1, .int 0)]) hx hb dX2_fillOrder_73 hl (k := 1) rfl (by decide +kernel) (by decide) rfl (fun ls hl => ?_)
        refine lv_goto (tgt := 8) hx hb dX2_fillOrder_76 (by decide) ?_
        refine lv_iload hx hb dX2_fillOrder_8 (lv_at hl 0 rfl) ?_
        refine lv_if_lt (tgt := 79) hx hb dX2_fillOrder_10 (by decide) (fun c10 => ?_) (fun c10 => ?_)
        ·
          exact absurd c10 (by decide +kernel)
        ·
          refine lv_iload_n hx hb dX2_fillOrder_13 rfl (lv_at hl 4 rfl) ?_
          refine lv_iload hx hb dX2_fillOrder_14 (lv_at hl 0 rfl) ?_
          refine lv_ishr hx hb dX2_fillOrder_16 ?_
          refine my_eqi (y := 0) (by decide +kernel) ?_
          refine lv_iconst (v := 1) hx hb dX2_fillOrder_17 (by decide +kernel) ?_
          refine lv_iand hx hb dX2_fillOrder_18 ?_
          refine my_eqi (y := 0) (by decide +kernel) ?_
          refine lv_if_ne (tgt := 73) hx hb dX2_fillOrder_19 (by decide) (fun c19 => ?_) (fun c19 => ?_)
          ·
            exact absurd c19 (by decide +kernel)
          ·
            refine lv_iload_n hx hb dX2_fillOrder_22 rfl (lv_at hl 2 rfl) ?_
            refine lv_aload_n hx hb dX2_fillOrder_23 rfl (lv_at hl 3 rfl) ?_
            refine va_get (ci := 2) (v := .int 0) (C := RX2) (T := TX2) (N := 9) hx hb hts hi2 hown hK hP 0 rfl rfl 6 (by decide) fl34 (fun _ h9 => h9) rfl dX2_fillOrder_24 ?_
            refine lv_icmp_ge (tgt := 62) hx hb dX2_fillOrder_27 (by decide) (fun c27 => ?_) (fun c27 => ?_)
            ·
              refine lv_aload_n hx hb dX2_fillOrder_62 rfl (lv_at hl 3 rfl) ?_
              refine va_get (ci := 2) (v := .ref r5) (C := RX2) (T := TX2) (N := 9) hx hb hts hi2 hown hK hP 0 rfl rfl 4 (by decide) fl27 (fun _ h9 => h9) rfl dX2_fillOrder_63 ?_
              refine lv_iload_n hx hb dX2_fillOrder_66 rfl (lv_at hl 1 rfl) ?_
              refine lv_iload hx hb dX2_fillOrder_67 (lv_at hl 0 rfl) ?_
              refine va_iast hx hb hK hP hD hS 2 0 rfl rfl (vp_in_nI (n := 1) (by omega) (by omega)) dX2_fillOrder_69 (fun H locs hP hD hS => ?_)
              have eU : upd (upd f 0 7) (1 : Int32).toNatClampNeg 6 = upd (upd f 0 7) 1 6 := by rw [show (1 : Int32).toNatClampNeg = 1 from by decide +kernel]
              rw [eU] at hP hD
              have hP : va_P D vwCl [(xr, .inr (2, [.ref r1, .ref r2, .ref r3, .ref r4, .ref r5, .int r6, .int 0, .int r8, .int z])), (r4, .inl (cI, 8, .inl g)), (r5, .inl (cI, 8, .inl (upd (upd f 0 7) 1 6)))] H := hP
              have hD : va_D A [(xr, .inr (2, [.ref r1, .ref r2, .ref r3, .ref r4, .ref r5, .int r6, .int 0, .int r8, .int z])), (r4, .inl (cI, 8, .inl g)), (r5, .inl (cI, 8, .inl (upd (upd f 0 7) 1 6)))] := hD
              refine lv_iinc (v := 2) (lv' := [(2, .int 2), (4, .int 6), (3, .int 0), (0, .ref xr), (1, .int 0)]) hx hb dX2_fillOrder_70 hl (k := 1) rfl (by decide +kernel) (by decide) rfl (fun ls hl => ?_)
              refine lv_iinc (v := 5) (lv' := [(4, .int 5), (2, .int 2), (3, .int 0), (0, .ref xr), (1, .int 0)]) hx hb dX2_fillOrder_73 hl (k := 1) rfl (by decide +kernel) (by decide) rfl (fun ls hl => ?_)
              refine lv_goto (tgt := 8) hx hb dX2_fillOrder_76 (by decide) ?_
              refine lv_iload hx hb dX2_fillOrder_8 (lv_at hl 0 rfl) ?_
              refine lv_if_lt (tgt := 79) hx hb dX2_fillOrder_10 (by decide) (fun c10 => ?_) (fun c10 => ?_)
              ·
                exact absurd c10 (by decide +kernel)
              ·
                refine lv_iload_n hx hb dX2_fillOrder_13 rfl (lv_at hl 4 rfl) ?_
                refine lv_iload hx hb dX2_fillOrder_14 (lv_at hl 0 rfl) ?_
                refine lv_ishr hx hb dX2_fillOrder_16 ?_
                refine my_eqi (y := 0) (by decide +kernel) ?_
                refine lv_iconst (v := 1) hx hb dX2_fillOrder_17 (by decide +kernel) ?_
                refine lv_iand hx hb dX2_fillOrder_18 ?_
                refine my_eqi (y := 0) (by decide +kernel) ?_
                refine lv_if_ne (tgt := 73) hx hb dX2_fillOrder_19 (by decide) (fun c19 => ?_) (fun c19 => ?_)
                ·
                  exact absurd c19 (by decide +kernel)
                ·
                  refine lv_iload_n hx hb dX2_fillOrder_22 rfl (lv_at hl 2 rfl) ?_
                  refine lv_aload_n hx hb dX2_fillOrder_23 rfl (lv_at hl 3 rfl) ?_
                  refine va_get (ci := 2) (v := .int 0) (C := RX2) (T := TX2) (N := 9) hx hb hts hi2 hown hK hP 0 rfl rfl 6 (by decide) fl34 (fun _ h9 => h9) rfl dX2_fillOrder_24 ?_
                  refine lv_icmp_ge (tgt := 62) hx hb dX2_fillOrder_27 (by decide) (fun c27 => ?_) (fun c27 => ?_)
                  ·
                    refine lv_aload_n hx hb dX2_fillOrder_62 rfl (lv_at hl 3 rfl) ?_
                    refine va_get (ci := 2) (v := .ref r5) (C := RX2) (T := TX2) (N := 9) hx hb hts hi2 hown hK hP 0 rfl rfl 4 (by decide) fl27 (fun _ h9 => h9) rfl dX2_fillOrder_63 ?_
                    refine lv_iload_n hx hb dX2_fillOrder_66 rfl (lv_at hl 1 rfl) ?_
                    refine lv_iload hx hb dX2_fillOrder_67 (lv_at hl 0 rfl) ?_
                    refine va_iast hx hb hK hP hD hS 2 0 rfl rfl (vp_in_nI (n := 2) (by omega) (by omega)) dX2_fillOrder_69 (fun H locs hP hD hS => ?_)
                    have eU : upd (upd (upd f 0 7) 1 6) (2 : Int32).toNatClampNeg 5 = upd (upd (upd f 0 7) 1 6) 2 5 := by rw [show (2 : Int32).toNatClampNeg = 2 from by decide +kernel]
                    rw [eU] at hP hD
                    have hP : va_P D vwCl [(xr, .inr (2, [.ref r1, .ref r2, .ref r3, .ref r4, .ref r5, .int r6, .int 0, .int r8, .int z])), (r4, .inl (cI, 8, .inl g)), (r5, .inl (cI, 8, .inl (upd (upd (upd f 0 7) 1 6) 2 5)))] H := hP
                    have hD : va_D A [(xr, .inr (2, [.ref r1, .ref r2, .ref r3, .ref r4, .ref r5, .int r6, .int 0, .int r8, .int z])), (r4, .inl (cI, 8, .inl g)), (r5, .inl (cI, 8, .inl (upd (upd (upd f 0 7) 1 6) 2 5)))] := hD
                    refine lv_iinc (v := 3) (lv' := [(2, .int 3), (4, .int 5), (3, .int 0), (0, .ref xr), (1, .int 0)]) hx hb dX2_fillOrder_70 hl (k := 1) rfl (by decide +kernel) (by decide) rfl (fun ls hl => ?_)
                    refine lv_iinc (v := 4) (lv' := [(4, .int 4), (2, .int 3), (3, .int 0), (0, .ref xr), (1, .int 0)]) hx hb dX2_fillOrder_73 hl (k := 1) rfl (by decide +kernel) (by decide) rfl (fun ls hl => ?_)
                    refine lv_goto (tgt := 8) hx hb dX2_fillOrder_76 (by decide) ?_
                    refine lv_iload hx hb dX2_fillOrder_8 (lv_at hl 0 rfl) ?_
                    refine lv_if_lt (tgt := 79) hx hb dX2_fillOrder_10 (by decide) (fun c10 => ?_) (fun c10 => ?_)
                    ·
                      exact absurd c10 (by decide +kernel)
                    ·
                      refine lv_iload_n hx hb dX2_fillOrder_13 rfl (lv_at hl 4 rfl) ?_
                      refine lv_iload hx hb dX2_fillOrder_14 (lv_at hl 0 rfl) ?_
                      refine lv_ishr hx hb dX2_fillOrder_16 ?_
                      refine my_eqi (y := 0) (by decide +kernel) ?_
                      refine lv_iconst (v := 1) hx hb dX2_fillOrder_17 (by decide +kernel) ?_
                      refine lv_iand hx hb dX2_fillOrder_18 ?_
                      refine my_eqi (y := 0) (by decide +kernel) ?_
                      refine lv_if_ne (tgt := 73) hx hb dX2_fillOrder_19 (by decide) (fun c19 => ?_) (fun c19 => ?_)
                      ·
                        exact absurd c19 (by decide +kernel)
                      ·
                        refine lv_iload_n hx hb dX2_fillOrder_22 rfl (lv_at hl 2 rfl) ?_
                        refine lv_aload_n hx hb dX2_fillOrder_23 rfl (lv_at hl 3 rfl) ?_
                        refine va_get (ci := 2) (v := .int 0) (C := RX2) (T := TX2) (N := 9) hx hb hts hi2 hown hK hP 0 rfl rfl 6 (by decide) fl34 (fun _ h9 => h9) rfl dX2_fillOrder_24 ?_
                        refine lv_icmp_ge (tgt := 62) hx hb dX2_fillOrder_27 (by decide) (fun c27 => ?_) (fun c27 => ?_)
                        ·
                          refine lv_aload_n hx hb dX2_fillOrder_62 rfl (lv_at hl 3 rfl) ?_
                          refine va_get (ci := 2) (v := .ref r5) (C := RX2) (T := TX2) (N := 9) hx hb hts hi2 hown hK hP 0 rfl rfl 4 (by decide) fl27 (fun _ h9 => h9) rfl dX2_fillOrder_63 ?_
                          refine lv_iload_n hx hb dX2_fillOrder_66 rfl (lv_at hl 1 rfl) ?_
                          refine lv_iload hx hb dX2_fillOrder_67 (lv_at hl 0 rfl) ?_
                          refine va_iast hx hb hK hP hD hS 2 0 rfl rfl (vp_in_nI (n := 3) (by omega) (by omega)) dX2_fillOrder_69 (fun H locs hP hD hS => ?_)
                          have eU : upd (upd (upd (upd f 0 7) 1 6) 2 5) (3 : Int32).toNatClampNeg 4 = upd (upd (upd (upd f 0 7) 1 6) 2 5) 3 4 := by rw [show (3 : Int32).toNatClampNeg = 3 from by decide +kernel]
                          rw [eU] at hP hD
                          have hP : va_P D vwCl [(xr, .inr (2, [.ref r1, .ref r2, .ref r3, .ref r4, .ref r5, .int r6, .int 0, .int r8, .int z])), (r4, .inl (cI, 8, .inl g)), (r5, .inl (cI, 8, .inl (upd (upd (upd (upd f 0 7) 1 6) 2 5) 3 4)))] H := hP
                          have hD : va_D A [(xr, .inr (2, [.ref r1, .ref r2, .ref r3, .ref r4, .ref r5, .int r6, .int 0, .int r8, .int z])), (r4, .inl (cI, 8, .inl g)), (r5, .inl (cI, 8, .inl (upd (upd (upd (upd f 0 7) 1 6) 2 5) 3 4)))] := hD
                          refine lv_iinc (v := 4) (lv' := [(2, .int 4), (4, .int 4), (3, .int 0), (0, .ref xr), (1, .int 0)]) hx hb dX2_fillOrder_70 hl (k := 1) rfl (by decide +kernel) (by decide) rfl (fun ls hl => ?_)
                          refine lv_iinc (v := 3) (lv' := [(4, .int 3), (2, .int 4), (3, .int 0), (0, .ref xr), (1, .int 0)]) hx hb dX2_fillOrder_73 hl (k := 1) rfl (by decide +kernel) (by decide) rfl (fun ls hl => ?_)
                          refine lv_goto (tgt := 8) hx hb dX2_fillOrder_76 (by decide) ?_
                          refine lv_iload hx hb dX2_fillOrder_8 (lv_at hl 0 rfl) ?_
                          refine lv_if_lt (tgt := 79) hx hb dX2_fillOrder_10 (by decide) (fun c10 => ?_) (fun c10 => ?_)
                          ·
                            exact absurd c10 (by decide +kernel)
                          ·
                            refine lv_iload_n hx hb dX2_fillOrder_13 rfl (lv_at hl 4 rfl) ?_
                            refine lv_iload hx hb dX2_fillOrder_14 (lv_at hl 0 rfl) ?_
                            refine lv_ishr hx hb dX2_fillOrder_16 ?_
                            refine my_eqi (y := 0) (by decide +kernel) ?_
                            refine lv_iconst (v := 1) hx hb dX2_fillOrder_17 (by decide +kernel) ?_
                            refine lv_iand hx hb dX2_fillOrder_18 ?_
                            refine my_eqi (y := 0) (by decide +kernel) ?_
                            refine lv_if_ne (tgt := 73) hx hb dX2_fillOrder_19 (by decide) (fun c19 => ?_) (fun c19 => ?_)
                            ·
                              exact absurd c19 (by decide +kernel)
                            ·
                              refine lv_iload_n hx hb dX2_fillOrder_22 rfl (lv_at hl 2 rfl) ?_
                              refine lv_aload_n hx hb dX2_fillOrder_23 rfl (lv_at hl 3 rfl) ?_
                              refine va_get (ci := 2) (v := .int 0) (C := RX2) (T := TX2) (N := 9) hx hb hts hi2 hown hK hP 0 rfl rfl 6 (by decide) fl34 (fun _ h9 => h9) rfl dX2_fillOrder_24 ?_
                              refine lv_icmp_ge (tgt := 62) hx hb dX2_fillOrder_27 (by decide) (fun c27 => ?_) (fun c27 => ?_)
                              ·
                                refine lv_aload_n hx hb dX2_fillOrder_62 rfl (lv_at hl 3 rfl) ?_
                                refine va_get (ci := 2) (v := .ref r5) (C := RX2) (T := TX2) (N := 9) hx hb hts hi2 hown hK hP 0 rfl rfl 4 (by decide) fl27 (fun _ h9 => h9) rfl dX2_fillOrder_63 ?_
                                refine lv_iload_n hx hb dX2_fillOrder_66 rfl (lv_at hl 1 rfl) ?_
                                refine lv_iload hx hb dX2_fillOrder_67 (lv_at hl 0 rfl) ?_
                                refine va_iast hx hb hK hP hD hS 2 0 rfl rfl (vp_in_nI (n := 4) (by omega) (by omega)) dX2_fillOrder_69 (fun H locs hP hD hS => ?_)
                                have eU : upd (upd (upd (upd (upd f 0 7) 1 6) 2 5) 3 4) (4 : Int32).toNatClampNeg 3 = upd (upd (upd (upd (upd f 0 7) 1 6) 2 5) 3 4) 4 3 := by rw [show (4 : Int32).toNatClampNeg = 4 from by decide +kernel]
                                rw [eU] at hP hD
                                have hP : va_P D vwCl [(xr, .inr (2, [.ref r1, .ref r2, .ref r3, .ref r4, .ref r5, .int r6, .int 0, .int r8, .int z])), (r4, .inl (cI, 8, .inl g)), (r5, .inl (cI, 8, .inl (upd (upd (upd (upd (upd f 0 7) 1 6) 2 5) 3 4) 4 3)))] H := hP
                                have hD : va_D A [(xr, .inr (2, [.ref r1, .ref r2, .ref r3, .ref r4, .ref r5, .int r6, .int 0, .int r8, .int z])), (r4, .inl (cI, 8, .inl g)), (r5, .inl (cI, 8, .inl (upd (upd (upd (upd (upd f 0 7) 1 6) 2 5) 3 4) 4 3)))] := hD
                                refine lv_iinc (v := 5) (lv' := [(2, .int 5), (4, .int 3), (3, .int 0), (0, .ref xr), (1, .int 0)]) hx hb dX2_fillOrder_70 hl (k := 1) rfl (by decide +kernel) (by decide) rfl (fun ls hl => ?_)
                                refine lv_iinc (v := 2) (lv' := [(4, .int 2), (2, .int 5), (3, .int 0), (0, .ref xr), (1, .int 0)]) hx hb dX2_fillOrder_73 hl (k := 1) rfl (by decide +kernel) (by decide) rfl (fun ls hl => ?_)
                                refine lv_goto (tgt := 8) hx hb dX2_fillOrder_76 (by decide) ?_
                                refine lv_iload hx hb dX2_fillOrder_8 (lv_at hl 0 rfl) ?_
                                refine lv_if_lt (tgt := 79) hx hb dX2_fillOrder_10 (by decide) (fun c10 => ?_) (fun c10 => ?_)
                                ·
                                  exact absurd c10 (by decide +kernel)
                                ·
                                  refine lv_iload_n hx hb dX2_fillOrder_13 rfl (lv_at hl 4 rfl) ?_
                                  refine lv_iload hx hb dX2_fillOrder_14 (lv_at hl 0 rfl) ?_
                                  refine lv_ishr hx hb dX2_fillOrder_16 ?_
                                  refine my_eqi (y := 0) (by decide +kernel) ?_
                                  refine lv_iconst (v := 1) hx hb dX2_fillOrder_17 (by decide +kernel) ?_
                                  refine lv_iand hx hb dX2_fillOrder_18 ?_
                                  refine my_eqi (y := 0) (by decide +kernel) ?_
                                  refine lv_if_ne (tgt := 73) hx hb dX2_fillOrder_19 (by decide) (fun c19 => ?_) (fun c19 => ?_)
                                  ·
                                    exact absurd c19 (by decide +kernel)
                                  ·
                                    refine lv_iload_n hx hb dX2_fillOrder_22 rfl (lv_at hl 2 rfl) ?_
                                    refine lv_aload_n hx hb dX2_fillOrder_23 rfl (lv_at hl 3 rfl) ?_
                                    refine va_get (ci := 2) (v := .int 0) (C := RX2) (T := TX2) (N := 9) hx hb hts hi2 hown hK hP 0 rfl rfl 6 (by decide) fl34 (fun _ h9 => h9) rfl dX2_fillOrder_24 ?_
                                    refine lv_icmp_ge (tgt := 62) hx hb dX2_fillOrder_27 (by decide) (fun c27 => ?_) (fun c27 => ?_)
                                    ·
                                      refine lv_aload_n hx hb dX2_fillOrder_62 rfl (lv_at hl 3 rfl) ?_
                                      refine va_get (ci := 2) (v := .ref r5) (C := RX2) (T := TX2) (N := 9) hx hb hts hi2 hown hK hP 0 rfl rfl 4 (by decide) fl27 (fun _ h9 => h9) rfl dX2_fillOrder_63 ?_
                                      refine lv_iload_n hx hb dX2_fillOrder_66 rfl (lv_at hl 1 rfl) ?_
                                      refine lv_iload hx hb dX2_fillOrder_67 (lv_at hl 0 rfl) ?_
                                      refine va_iast hx hb hK hP hD hS 2 0 rfl rfl (vp_in_nI (n := 5) (by omega) (by omega)) dX2_fillOrder_69 (fun H locs hP hD hS => ?_)
                                      have eU : upd (upd (upd (upd (upd (upd f 0 7) 1 6) 2 5) 3 4) 4 3) (5 : Int32).toNatClampNeg 2 = upd (upd (upd (upd (upd (upd f 0 7) 1 6) 2 5) 3 4) 4 3) 5 2 := by rw [show (5 : Int32).toNatClampNeg = 5 from by decide +kernel]
                                      rw [eU] at hP hD
                                      have hP : va_P D vwCl [(xr, .inr (2, [.ref r1, .ref r2, .ref r3, .ref r4, .ref r5, .int r6, .int 0, .int r8, .int z])), (r4, .inl (cI, 8, .inl g)), (r5, .inl (cI, 8, .inl (upd (upd (upd (upd (upd (upd f 0 7) 1 6) 2 5) 3 4) 4 3) 5 2)))] H := hP
                                      have hD : va_D A [(xr, .inr (2, [.ref r1, .ref r2, .ref r3, .ref r4, .ref r5, .int r6, .int 0, .int r8, .int z])), (r4, .inl (cI, 8, .inl g)), (r5, .inl (cI, 8, .inl (upd (upd (upd (upd (upd (upd f 0 7) 1 6) 2 5) 3 4) 4 3) 5 2)))] := hD
                                      refine lv_iinc (v := 6) (lv' := [(2, .int 6), (4, .int 2), (3, .int 0), (0, .ref xr), (1, .int 0)]) hx hb dX2_fillOrder_70 hl (k := 1) rfl (by decide +kernel) (by decide) rfl (fun ls hl => ?_)
                                      refine lv_iinc (v := 1) (lv' := [(4, .int 1), (2, .int 6), (3, .int 0), (0, .ref xr), (1, .int 0)]) hx hb dX2_fillOrder_73 hl (k := 1) rfl (by decide +kernel) (by decide) rfl (fun ls hl => ?_)
                                      refine lv_goto (tgt := 8) hx hb dX2_fillOrder_76 (by decide) ?_
                                      refine lv_iload hx hb dX2_fillOrder_8 (lv_at hl 0 rfl) ?_
                                      refine lv_if_lt (tgt := 79) hx hb dX2_fillOrder_10 (by decide) (fun c10 => ?_) (fun c10 => ?_)
                                      ·
                                        exact absurd c10 (by decide +kernel)
                                      ·
                                        refine lv_iload_n hx hb dX2_fillOrder_13 rfl (lv_at hl 4 rfl) ?_
                                        refine lv_iload hx hb dX2_fillOrder_14 (lv_at hl 0 rfl) ?_
                                        refine lv_ishr hx hb dX2_fillOrder_16 ?_
                                        refine my_eqi (y := 0) (by decide +kernel) ?_
                                        refine lv_iconst (v := 1) hx hb dX2_fillOrder_17 (by decide +kernel) ?_
                                        refine lv_iand hx hb dX2_fillOrder_18 ?_
                                        refine my_eqi (y := 0) (by decide +kernel) ?_
                                        refine lv_if_ne (tgt := 73) hx hb dX2_fillOrder_19 (by decide) (fun c19 => ?_) (fun c19 => ?_)
                                        ·
                                          exact absurd c19 (by decide +kernel)
                                        ·
                                          refine lv_iload_n hx hb dX2_fillOrder_22 rfl (lv_at hl 2 rfl) ?_
                                          refine lv_aload_n hx hb dX2_fillOrder_23 rfl (lv_at hl 3 rfl) ?_
                                          refine va_get (ci := 2) (v := .int 0) (C := RX2) (T := TX2) (N := 9) hx hb hts hi2 hown hK hP 0 rfl rfl 6 (by decide) fl34 (fun _ h9 => h9) rfl dX2_fillOrder_24 ?_
                                          refine lv_icmp_ge (tgt := 62) hx hb dX2_fillOrder_27 (by decide) (fun c27 => ?_) (fun c27 => ?_)
                                          ·
                                            refine lv_aload_n hx hb dX2_fillOrder_62 rfl (lv_at hl 3 rfl) ?_
                                            refine va_get (ci := 2) (v := .ref r5) (C := RX2) (T := TX2) (N := 9) hx hb hts hi2 hown hK hP 0 rfl rfl 4 (by decide) fl27 (fun _ h9 => h9) rfl dX2_fillOrder_63 ?_
                                            refine lv_iload_n hx hb dX2_fillOrder_66 rfl (lv_at hl 1 rfl) ?_
                                            refine lv_iload hx hb dX2_fillOrder_67 (lv_at hl 0 rfl) ?_
                                            refine va_iast hx hb hK hP hD hS 2 0 rfl rfl (vp_in_nI (n := 6) (by omega) (by omega)) dX2_fillOrder_69 (fun H locs hP hD hS => ?_)
                                            have eU : upd (upd (upd (upd (upd (upd (upd f 0 7) 1 6) 2 5) 3 4) 4 3) 5 2) (6 : Int32).toNatClampNeg 1 = upd (upd (upd (upd (upd (upd (upd f 0 7) 1 6) 2 5) 3 4) 4 3) 5 2) 6 1 := by rw [show (6 : Int32).toNatClampNeg = 6 from by decide +kernel]
                                            rw [eU] at hP hD
                                            have hP : va_P D vwCl [(xr, .inr (2, [.ref r1, .ref r2, .ref r3, .ref r4, .ref r5, .int r6, .int 0, .int r8, .int z])), (r4, .inl (cI, 8, .inl g)), (r5, .inl (cI, 8, .inl (upd (upd (upd (upd (upd (upd (upd f 0 7) 1 6) 2 5) 3 4) 4 3) 5 2) 6 1)))] H := hP
                                            have hD : va_D A [(xr, .inr (2, [.ref r1, .ref r2, .ref r3, .ref r4, .ref r5, .int r6, .int 0, .int r8, .int z])), (r4, .inl (cI, 8, .inl g)), (r5, .inl (cI, 8, .inl (upd (upd (upd (upd (upd (upd (upd f 0 7) 1 6) 2 5) 3 4) 4 3) 5 2) 6 1)))] := hD
                                            refine lv_iinc (v := 7) (lv' := [(2, .int 7), (4, .int 1), (3, .int 0), (0, .ref xr), (1, .int 0)]) hx hb dX2_fillOrder_70 hl (k := 1) rfl (by decide +kernel) (by decide) rfl (fun ls hl => ?_)
                                            refine lv_iinc (v := 0) (lv' := [(4, .int 0), (2, .int 7), (3, .int 0), (0, .ref xr), (1, .int 0)]) hx hb dX2_fillOrder_73 hl (k := 1) rfl (by decide +kernel) (by decide) rfl (fun ls hl => ?_)
                                            refine lv_goto (tgt := 8) hx hb dX2_fillOrder_76 (by decide) ?_
                                            refine lv_iload hx hb dX2_fillOrder_8 (lv_at hl 0 rfl) ?_
                                            refine lv_if_lt (tgt := 79) hx hb dX2_fillOrder_10 (by decide) (fun c10 => ?_) (fun c10 => ?_)
                                            ·
                                              exact absurd c10 (by decide +kernel)
                                            ·
                                              refine lv_iload_n hx hb dX2_fillOrder_13 rfl (lv_at hl 4 rfl) ?_
                                              refine lv_iload hx hb dX2_fillOrder_14 (lv_at hl 0 rfl) ?_
                                              refine lv_ishr hx hb dX2_fillOrder_16 ?_
                                              refine my_eqi (y := 0) (by decide +kernel) ?_
                                              refine lv_iconst (v := 1) hx hb dX2_fillOrder_17 (by decide +kernel) ?_
                                              refine lv_iand hx hb dX2_fillOrder_18 ?_
                                              refine my_eqi (y := 0) (by decide +kernel) ?_
                                              refine lv_if_ne (tgt := 73) hx hb dX2_fillOrder_19 (by decide) (fun c19 => ?_) (fun c19 => ?_)
                                              ·
                                                exact absurd c19 (by decide +kernel)
                                              ·
                                                refine lv_iload_n hx hb dX2_fillOrder_22 rfl (lv_at hl 2 rfl) ?_
                                                refine lv_aload_n hx hb dX2_fillOrder_23 rfl (lv_at hl 3 rfl) ?_
                                                refine va_get (ci := 2) (v := .int 0) (C := RX2) (T := TX2) (N := 9) hx hb hts hi2 hown hK hP 0 rfl rfl 6 (by decide) fl34 (fun _ h9 => h9) rfl dX2_fillOrder_24 ?_
                                                refine lv_icmp_ge (tgt := 62) hx hb dX2_fillOrder_27 (by decide) (fun c27 => ?_) (fun c27 => ?_)
                                                ·
                                                  refine lv_aload_n hx hb dX2_fillOrder_62 rfl (lv_at hl 3 rfl) ?_
                                                  refine va_get (ci := 2) (v := .ref r5) (C := RX2) (T := TX2) (N := 9) hx hb hts hi2 hown hK hP 0 rfl rfl 4 (by decide) fl27 (fun _ h9 => h9) rfl dX2_fillOrder_63 ?_
                                                  refine lv_iload_n hx hb dX2_fillOrder_66 rfl (lv_at hl 1 rfl) ?_
                                                  refine lv_iload hx hb dX2_fillOrder_67 (lv_at hl 0 rfl) ?_
                                                  refine va_iast hx hb hK hP hD hS 2 0 rfl rfl (vp_in_nI (n := 7) (by omega) (by omega)) dX2_fillOrder_69 (fun H locs hP hD hS => ?_)
                                                  have eU : upd (upd (upd (upd (upd (upd (upd (upd f 0 7) 1 6) 2 5) 3 4) 4 3) 5 2) 6 1) (7 : Int32).toNatClampNeg 0 = upd (upd (upd (upd (upd (upd (upd (upd f 0 7) 1 6) 2 5) 3 4) 4 3) 5 2) 6 1) 7 0 := by rw [show (7 : Int32).toNatClampNeg = 7 from by decide +kernel]
                                                  rw [eU] at hP hD
                                                  have hP : va_P D vwCl [(xr, .inr (2, [.ref r1, .ref r2, .ref r3, .ref r4, .ref r5, .int r6, .int 0, .int r8, .int z])), (r4, .inl (cI, 8, .inl g)), (r5, .inl (cI, 8, .inl (upd (upd (upd (upd (upd (upd (upd (upd f 0 7) 1 6) 2 5) 3 4) 4 3) 5 2) 6 1) 7 0)))] H := hP
                                                  have hD : va_D A [(xr, .inr (2, [.ref r1, .ref r2, .ref r3, .ref r4, .ref r5, .int r6, .int 0, .int r8, .int z])), (r4, .inl (cI, 8, .inl g)), (r5, .inl (cI, 8, .inl (upd (upd (upd (upd (upd (upd (upd (upd f 0 7) 1 6) 2 5) 3 4) 4 3) 5 2) 6 1) 7 0)))] := hD
                                                  refine lv_iinc (v := 8) (lv' := [(2, .int 8), (4, .int 0), (3, .int 0), (0, .ref xr), (1, .int 0)]) hx hb dX2_fillOrder_70 hl (k := 1) rfl (by decide +kernel) (by decide) rfl (fun ls hl => ?_)
                                                  refine lv_iinc (v := (-1)) (lv' := [(4, .int (-1)), (2, .int 8), (3, .int 0), (0, .ref xr), (1, .int 0)]) hx hb dX2_fillOrder_73 hl (k := 1) rfl (by decide +kernel) (by decide) rfl (fun ls hl => ?_)
                                                  refine lv_goto (tgt := 8) hx hb dX2_fillOrder_76 (by decide) ?_
                                                  refine lv_iload hx hb dX2_fillOrder_8 (lv_at hl 0 rfl) ?_
                                                  refine lv_if_lt (tgt := 79) hx hb dX2_fillOrder_10 (by decide) (fun c10 => ?_) (fun c10 => ?_)
                                                  ·
                                                    refine lv_aload_n hx hb dX2_fillOrder_79 rfl (lv_at hl 3 rfl) ?_
                                                    refine va_get (ci := 2) (v := .ref r4) (C := RX2) (T := TX2) (N := 9) hx hb hts hi2 hown hK hP 0 rfl rfl 3 (by decide) fl24 (fun _ h9 => h9) rfl dX2_fillOrder_80 ?_
                                                    refine lv_iload_n hx hb dX2_fillOrder_83 rfl (lv_at hl 2 rfl) ?_
                                                    refine lv_aload_n hx hb dX2_fillOrder_84 rfl (lv_at hl 3 rfl) ?_
                                                    refine va_get (ci := 2) (v := .ref r5) (C := RX2) (T := TX2) (N := 9) hx hb hts hi2 hown hK hP 0 rfl rfl 4 (by decide) fl27 (fun _ h9 => h9) rfl dX2_fillOrder_85 ?_
                                                    refine lv_iload_n hx hb dX2_fillOrder_88 rfl (lv_at hl 1 rfl) ?_
                                                    refine lv_aload_n hx hb dX2_fillOrder_89 rfl (lv_at hl 3 rfl) ?_
                                                    refine va_get (ci := 2) (v := .int 0) (C := RX2) (T := TX2) (N := 9) hx hb hts hi2 hown hK hP 0 rfl rfl 6 (by decide) fl34 (fun _ h9 => h9) rfl dX2_fillOrder_90 ?_
                                                    refine lv_iload_n hx hb dX2_fillOrder_93 rfl (lv_at hl 2 rfl) ?_
                                                    refine lv_isub hx hb dX2_fillOrder_94 ?_
                                                    refine my_eqi (y := 0) (by decide +kernel) ?_
                                                    refine va_copyi hx hb (hml.trans hl.1.symm) hown (hts (.methodLink RX2 75 arraycopyName) (by decide +kernel)) (hts (.native arraycopyName) (by decide +kernel)) (hts (.static arraycopyName) (by decide +kernel)) (hts (.initialized "java/lang/System") (by decide +kernel)) hK hP hD hS 1 2 0 0 rfl rfl rfl rfl rfl (by decide +kernel) (by decide +kernel) (by decide +kernel) (by decide +kernel) (by decide +kernel) (fun _ _ => rfl) (Nat.le_of_ble_eq_true rfl) (Nat.le_of_ble_eq_true rfl) dX2_fillOrder_95 (fun H locs hP hD hS => ?_)
                                                    have hP : va_P D vwCl [(xr, .inr (2, [.ref r1, .ref r2, .ref r3, .ref r4, .ref r5, .int r6, .int 0, .int r8, .int z])), (r4, .inl (cI, 8, .inl g)), (r5, .inl (cI, 8, .inl (va_cpy g (upd (upd (upd (upd (upd (upd (upd (upd f 0 7) 1 6) 2 5) 3 4) 4 3) 5 2) 6 1) 7 0) (0 : Int32).toNatClampNeg (8 : Int32).toNatClampNeg (0 : Int32).toNatClampNeg)))] H := hP
                                                    have hD : va_D A [(xr, .inr (2, [.ref r1, .ref r2, .ref r3, .ref r4, .ref r5, .int r6, .int 0, .int r8, .int z])), (r4, .inl (cI, 8, .inl g)), (r5, .inl (cI, 8, .inl (va_cpy g (upd (upd (upd (upd (upd (upd (upd (upd f 0 7) 1 6) 2 5) 3 4) 4 3) 5 2) 6 1) 7 0) (0 : Int32).toNatClampNeg (8 : Int32).toNatClampNeg (0 : Int32).toNatClampNeg)))] := hD
                                                    exact my_retV hx hb hr hlocks hK hS [(xr, .inr (2, [.ref r1, .ref r2, .ref r3, .ref r4, .ref r5, .int r6, .int 0, .int r8, .int z])), (r4, .inl (cI, 8, .inl g)), (r5, .inl (cI, 8, .inl (va_cpy g (upd (upd (upd (upd (upd (upd (upd (upd f 0 7) 1 6) 2 5) 3 4) 4 3) 5 2) 6 1) 7 0) (0 : Int32).toNatClampNeg (8 : Int32).toNatClampNeg (0 : Int32).toNatClampNeg)))] (hP.sub [0, 1, 2] rfl) (hD.sub [0, 1, 2] (by decide) rfl) (⟨(va_cpy g (upd (upd (upd (upd (upd (upd (upd (upd f 0 7) 1 6) 2 5) 3 4) 4 3) 5 2) 6 1) 7 0) (0 : Int32).toNatClampNeg (8 : Int32).toNatClampNeg (0 : Int32).toNatClampNeg), rfl⟩) dX2_fillOrder_98
                                                  ·
                                                    exact absurd c10 (by decide +kernel)
                                                ·
                                                  exact absurd c27 (by decide +kernel)
                                          ·
                                            exact absurd c27 (by decide +kernel)
                                    ·
                                      exact absurd c27 (by decide +kernel)
                              ·
                                exact absurd c27 (by decide +kernel)
                        ·
                          exact absurd c27 (by decide +kernel)
                  ·
                    exact absurd c27 (by decide +kernel)
            ·
              exact absurd c27 (by decide +kernel)
      ·
        exact absurd c27 (by decide +kernel)
set_option maxHeartbeats 4000000 in
set_option maxRecDepth 100000 in
theorem k0_X2_search (l : Launch) (D : va_G) (cI cJ : ClassId) (xr : Nat) (nn : Nat) (r1 : Nat) (r2 : Nat) (r3 : Nat) (r4 : Nat) (r5 : Nat) (r6 : Int32) (r7 : Int32) (r8 : Int32) (f : Nat → Int32) (g : Nat → Int32) : ctI l yX2_search wsX2_search ({ frames := 3, cells := 0, slots := 0, locals := 180 } : Room) D (tyIJ cI cJ) [.ref xr, .ref nn, .int 0] [(xr, .inr (2, [.ref r1, .ref r2, .ref r3, .ref r4, .ref r5, .int r6, .int r7, .int r8, .int 0])), (r4, .inl (cI, 8, .inl g)), (r5, .inl (cI, 8, .inl f))] (fun (r : Int32) (u : va_W) => ∃ (f' : Nat → Int32), u = [(xr, .inr (2, [.ref r1, .ref r2, .ref r3, .ref r4, .ref r5, .int 0, .int 0, .int 0, .int 1])), (r5, .inl (cI, 8, .inl f'))] ∧ r = 0) := by
  refine ctI.of (cc := cX2_search) (maxL := 4) (ret := (some .int)) (by decide) rfl (Nat.le_of_ble_eq_true rfl) ?_
  intro p e s m below meth c ls A hx hb hr hts hown hml hlocks hname hA hK hN hP hD hS hl
  have hl : lv_has ls 4 [(0, .ref xr), (1, .ref nn), (2, .int 0)] := hl
  have hown : s.vm.findClass RX2 = some m.cls := hown
  have hi2 : ∀ w ∈ u_ws RX2 TX2 9, w ∈ wsX2_search := by decide +kernel
  have fl30 := hts (.fieldLink RX2 30 "PlaneColumn$OrderSearch" "size" "I") (by decide +kernel)
  have fl34 := hts (.fieldLink RX2 34 "PlaneColumn$OrderSearch" "variedCount" "I") (by decide +kernel)
  have fl37 := hts (.fieldLink RX2 37 "PlaneColumn$OrderSearch" "fewest" "I") (by decide +kernel)
  have fl40 := hts (.fieldLink RX2 40 "PlaneColumn$OrderSearch" "known" "Z") (by decide +kernel)
  refine lv_aload_n hx hb dX2_search_0 rfl (lv_at hl 0 rfl) ?_
  refine va_get (ci := 2) (v := .int 0) (C := RX2) (T := TX2) (N := 9) hx hb hts hi2 hown hK hP 0 rfl rfl 8 (by decide) fl40 (fun _ h9 => h9) rfl dX2_search_1 ?_
  refine lv_if_ne (tgt := 88) hx hb dX2_search_4 (by decide) (fun c4 => ?_) (fun c4 => ?_)
  ·
    exact absurd c4 (by decide +kernel)
  ·
    refine lv_aload_n hx hb dX2_search_7 rfl (lv_at hl 0 rfl) ?_
    refine lv_iload_n hx hb dX2_search_8 rfl (lv_at hl 2 rfl) ?_
    refine va_put (ci := 2) (v := .int 0) (ty := (.int)) (C := RX2) (T := TX2) (N := 9) hx hb hts hi2 tyX2 tyX2_ok nmX2 hown hK hP hD hS 0 rfl rfl 5 (by decide) fl30 (fun _ h9 => h9) rfl (by decide +kernel) rfl rfl (Nat.le_of_ble_eq_true rfl) dX2_search_9 (fun H locs hP hD hS => ?_)
    have hP : va_P D vwCl [(xr, .inr (2, [.ref r1, .ref r2, .ref r3, .ref r4, .ref r5, .int 0, .int r7, .int r8, .int 0])), (r4, .inl (cI, 8, .inl g)), (r5, .inl (cI, 8, .inl f))] H := hP
    have hD : va_D A [(xr, .inr (2, [.ref r1, .ref r2, .ref r3, .ref r4, .ref r5, .int 0, .int r7, .int r8, .int 0])), (r4, .inl (cI, 8, .inl g)), (r5, .inl (cI, 8, .inl f))] := hD
    refine lv_aload_n hx hb dX2_search_12 rfl (lv_at hl 0 rfl) ?_
    refine lv_aload_n hx hb dX2_search_13 rfl (lv_at hl 1 rfl) ?_
    refine my_gpI (my_pV (As := [.ref nn]) (rest := []) (ci := 2) ⟨hx, hb, hml, hown, hts⟩ (cwV 1 hts gX2_search_X2_takeLine rfl rfl rfl (by decide +kernel) ⟨Nat.le_of_ble_eq_true rfl, Nat.le_of_ble_eq_true rfl⟩) hN hK hP [0] rfl 0 rfl rfl rfl rfl hl.1 rfl (Nat.le_of_ble_eq_true rfl) dX2_search_14 ⟨Nat.le_of_ble_eq_true rfl, Nat.le_of_ble_eq_true rfl⟩  (k0_X2_takeLine l D cI cJ xr nn r1 r2 r3 r4 r5 r7 r8 (0 : Int32))) (fun r hp => ?_)
    obtain rfl := hp
    refine lv_istore_n (lv' := [(3, .int 0), (0, .ref xr), (1, .ref nn), (2, .int 0)]) hx hb dX2_search_17 rfl hl (by decide) rfl (fun ls hl => ?_)
    refine lv_aload_n hx hb dX2_search_18 rfl (lv_at hl 1 rfl) ?_
    refine lv_iload_n hx hb dX2_search_19 rfl (lv_at hl 0 rfl) ?_
    refine my_gpI (my_pS (As := [.int 0]) (rest := [.ref xr]) ⟨hx, hb, hml, hown, hts⟩ (va_cwS 1 hts gX2_search_J6_bitCount_0f7a4 rfl rfl rfl (by decide +kernel) ⟨Nat.le_of_ble_eq_true rfl, Nat.le_of_ble_eq_true rfl⟩) hN hK hP [] rfl rfl hl.1 rfl (Nat.le_of_ble_eq_true rfl) dX2_search_20 ⟨Nat.le_of_ble_eq_true rfl, Nat.le_of_ble_eq_true rfl⟩  (k0_J6_bitCount_0f7a4 l D cI cJ )) (fun r hp => ?_)
    obtain rfl := hp
    refine va_put (ci := 2) (v := .int 0) (ty := (.int)) (C := RX2) (T := TX2) (N := 9) hx hb hts hi2 tyX2 tyX2_ok nmX2 hown hK hP hD hS 0 rfl rfl 6 (by decide) fl34 (fun _ h9 => h9) rfl (by decide +kernel) rfl rfl (Nat.le_of_ble_eq_true rfl) dX2_search_23 (fun H locs hP hD hS => ?_)
    have hP : va_P D vwCl [(xr, .inr (2, [.ref r1, .ref r2, .ref r3, .ref r4, .ref r5, .int 0, .int 0, .int r8, .int 0])), (r4, .inl (cI, 8, .inl g)), (r5, .inl (cI, 8, .inl f))] H := hP
    have hD : va_D A [(xr, .inr (2, [.ref r1, .ref r2, .ref r3, .ref r4, .ref r5, .int 0, .int 0, .int r8, .int 0])), (r4, .inl (cI, 8, .inl g)), (r5, .inl (cI, 8, .inl f))] := hD
    refine lv_aload_n hx hb dX2_search_26 rfl (lv_at hl 1 rfl) ?_
    refine lv_aload_n hx hb dX2_search_27 rfl (lv_at hl 1 rfl) ?_
    refine va_get (ci := 2) (v := .int 0) (C := RX2) (T := TX2) (N := 9) hx hb hts hi2 hown hK hP 0 rfl rfl 6 (by decide) fl34 (fun _ h9 => h9) rfl dX2_search_28 ?_
    refine lv_if_ne (tgt := 38) hx hb dX2_search_31 (by decide) (fun c31 => ?_) (fun c31 => ?_)
    ·
      exact absurd c31 (by decide +kernel)
    ·
      refine lv_iconst (v := 0) hx hb dX2_search_34 (by decide +kernel) ?_
      refine lv_goto (tgt := 41) hx hb dX2_search_35 (by decide) ?_
      refine va_put (ci := 2) (v := .int 0) (ty := (.int)) (C := RX2) (T := TX2) (N := 9) hx hb hts hi2 tyX2 tyX2_ok nmX2 hown hK hP hD hS 0 rfl rfl 7 (by decide) fl37 (fun _ h9 => h9) rfl (by decide +kernel) rfl rfl (Nat.le_of_ble_eq_true rfl) dX2_search_41 (fun H locs hP hD hS => ?_)
      have hP : va_P D vwCl [(xr, .inr (2, [.ref r1, .ref r2, .ref r3, .ref r4, .ref r5, .int 0, .int 0, .int 0, .int 0])), (r4, .inl (cI, 8, .inl g)), (r5, .inl (cI, 8, .inl f))] H := hP
      have hD : va_D A [(xr, .inr (2, [.ref r1, .ref r2, .ref r3, .ref r4, .ref r5, .int 0, .int 0, .int 0, .int 0])), (r4, .inl (cI, 8, .inl g)), (r5, .inl (cI, 8, .inl f))] := hD
      refine lv_aload_n hx hb dX2_search_44 rfl (lv_at hl 1 rfl) ?_
      refine lv_iconst (v := 0) hx hb dX2_search_45 (by decide +kernel) ?_
      refine lv_iload_n hx hb dX2_search_46 rfl (lv_at hl 0 rfl) ?_
      refine lv_iconst (v := 0) hx hb dX2_search_47 (by decide +kernel) ?_
      refine my_goV (wr := [(r4, .inl (cI, 8, .inl g)), (r5, .inl (cI, 8, .inl f))]) hP hD hS hA [0] [1, 2] rfl rfl (by decide) (by decide) (my_cV (As := [.int 0, .int 0, .int 0]) (rest := []) (ci := 2) (wc := [(xr, .inr (2, [.ref r1, .ref r2, .ref r3, .ref r4, .ref r5, .int 0, .int 0, .int 0, .int 0]))]) ⟨hx, hb, hml, hown, hts⟩ (cwV 3 hts gX2_search_X2_tryBits rfl rfl rfl (by decide +kernel) ⟨Nat.le_of_ble_eq_true rfl, Nat.le_of_ble_eq_true rfl⟩) hN hK hP hD [0] rfl (by decide) rfl 0 rfl rfl rfl rfl hl.1 rfl (Nat.le_of_ble_eq_true rfl) dX2_search_48 ⟨Nat.le_of_ble_eq_true rfl, Nat.le_of_ble_eq_true rfl⟩  ((k0_X2_tryBits l D cI cJ xr r1 r2 r3 r4 r5 (0 : Int32) (0 : Int32) (0 : Int32)) _)) (fun u H locs hp hP hD hS => ?_)
      obtain rfl := hp
      have hP : va_P D vwCl [(r4, .inl (cI, 8, .inl g)), (r5, .inl (cI, 8, .inl f)), (xr, .inr (2, [.ref r1, .ref r2, .ref r3, .ref r4, .ref r5, .int 0, .int 0, .int 0, .int 0]))] H := hP
      have hD : va_D A [(r4, .inl (cI, 8, .inl g)), (r5, .inl (cI, 8, .inl f)), (xr, .inr (2, [.ref r1, .ref r2, .ref r3, .ref r4, .ref r5, .int 0, .int 0, .int 0, .int 0]))] := hD
      refine lv_aload_n hx hb dX2_search_51 rfl (lv_at hl 1 rfl) ?_
      refine lv_iload_n hx hb dX2_search_52 rfl (lv_at hl 0 rfl) ?_
      refine my_goV (wr := []) hP hD hS hA [2, 0, 1] [] rfl rfl (by decide) (by decide) (my_cV (As := [.int 0]) (rest := []) (ci := 2) (wc := [(xr, .inr (2, [.ref r1, .ref r2, .ref r3, .ref r4, .ref r5, .int 0, .int 0, .int 0, .int 0])), (r4, .inl (cI, 8, .inl g)), (r5, .inl (cI, 8, .inl f))]) ⟨hx, hb, hml, hown, hts⟩ (cwV 1 hts gX2_search_X2_fillOrder rfl rfl rfl (by decide +kernel) ⟨Nat.le_of_ble_eq_true rfl, Nat.le_of_ble_eq_true rfl⟩) hN hK hP hD [2, 0, 1] rfl (by decide) rfl 2 rfl rfl rfl rfl hl.1 rfl (Nat.le_of_ble_eq_true rfl) dX2_search_53 ⟨Nat.le_of_ble_eq_true rfl, Nat.le_of_ble_eq_true rfl⟩  ((k0_X2_fillOrder l D cI cJ xr r1 r2 r3 r4 r5 (0 : Int32) (0 : Int32) (0 : Int32) f g) _)) (fun u H locs hp hP hD hS => ?_)
      obtain ⟨f_1, rfl⟩ := hp
      have hP : va_P D vwCl [(xr, .inr (2, [.ref r1, .ref r2, .ref r3, .ref r4, .ref r5, .int 0, .int 0, .int 0, .int 0])), (r4, .inl (cI, 8, .inl g)), (r5, .inl (cI, 8, .inl f_1))] H := hP
      have hD : va_D A [(xr, .inr (2, [.ref r1, .ref r2, .ref r3, .ref r4, .ref r5, .int 0, .int 0, .int 0, .int 0])), (r4, .inl (cI, 8, .inl g)), (r5, .inl (cI, 8, .inl f_1))] := hD
      refine lv_aload_n hx hb dX2_search_56 rfl (lv_at hl 1 rfl) ?_
      refine lv_dup hx hb dX2_search_57 rfl ?_
      refine va_get (ci := 2) (v := .int 0) (C := RX2) (T := TX2) (N := 9) hx hb hts hi2 hown hK hP 0 rfl rfl 7 (by decide) fl37 (fun _ h9 => h9) rfl dX2_search_58 ?_
      refine lv_aload_n hx hb dX2_search_61 rfl (lv_at hl 1 rfl) ?_
      refine va_get (ci := 2) (v := .int 0) (C := RX2) (T := TX2) (N := 9) hx hb hts hi2 hown hK hP 0 rfl rfl 5 (by decide) fl30 (fun _ h9 => h9) rfl dX2_search_62 ?_
      refine lv_if_ne (tgt := 72) hx hb dX2_search_65 (by decide) (fun c65 => ?_) (fun c65 => ?_)
      ·
        exact absurd c65 (by decide +kernel)
      ·
        refine lv_iconst (v := 0) hx hb dX2_search_68 (by decide +kernel) ?_
        refine lv_goto (tgt := 79) hx hb dX2_search_69 (by decide) ?_
        refine lv_iadd hx hb dX2_search_79 ?_
        refine my_eqi (y := 0) (by decide +kernel) ?_
        refine va_put (ci := 2) (v := .int 0) (ty := (.int)) (C := RX2) (T := TX2) (N := 9) hx hb hts hi2 tyX2 tyX2_ok nmX2 hown hK hP hD hS 0 rfl rfl 7 (by decide) fl37 (fun _ h9 => h9) rfl (by decide +kernel) rfl rfl (Nat.le_of_ble_eq_true rfl) dX2_search_80 (fun H locs hP hD hS => ?_)
        have hP : va_P D vwCl [(xr, .inr (2, [.ref r1, .ref r2, .ref r3, .ref r4, .ref r5, .int 0, .int 0, .int 0, .int 0])), (r4, .inl (cI, 8, .inl g)), (r5, .inl (cI, 8, .inl f_1))] H := hP
        have hD : va_D A [(xr, .inr (2, [.ref r1, .ref r2, .ref r3, .ref r4, .ref r5, .int 0, .int 0, .int 0, .int 0])), (r4, .inl (cI, 8, .inl g)), (r5, .inl (cI, 8, .inl f_1))] := hD
        refine lv_aload_n hx hb dX2_search_83 rfl (lv_at hl 1 rfl) ?_
        refine lv_iconst (v := 1) hx hb dX2_search_84 (by decide +kernel) ?_
        refine va_put (ci := 2) (v := .int 1) (ty := (.boolean)) (C := RX2) (T := TX2) (N := 9) hx hb hts hi2 tyX2 tyX2_ok nmX2 hown hK hP hD hS 0 rfl rfl 8 (by decide) fl40 (fun _ h9 => h9) rfl (by decide +kernel) (by decide +kernel) (by decide +kernel) (Nat.le_of_ble_eq_true rfl) dX2_search_85 (fun H locs hP hD hS => ?_)
        have hP : va_P D vwCl [(xr, .inr (2, [.ref r1, .ref r2, .ref r3, .ref r4, .ref r5, .int 0, .int 0, .int 0, .int 1])), (r4, .inl (cI, 8, .inl g)), (r5, .inl (cI, 8, .inl f_1))] H := hP
        have hD : va_D A [(xr, .inr (2, [.ref r1, .ref r2, .ref r3, .ref r4, .ref r5, .int 0, .int 0, .int 0, .int 1])), (r4, .inl (cI, 8, .inl g)), (r5, .inl (cI, 8, .inl f_1))] := hD
        refine lv_aload_n hx hb dX2_search_88 rfl (lv_at hl 1 rfl) ?_
        refine va_get (ci := 2) (v := .int 0) (C := RX2) (T := TX2) (N := 9) hx hb hts hi2 hown hK hP 0 rfl rfl 7 (by decide) fl37 (fun _ h9 => h9) rfl dX2_search_89 ?_
        exact my_retI hx hb hr hlocks hK hS [(xr, .inr (2, [.ref r1, .ref r2, .ref r3, .ref r4, .ref r5, .int 0, .int 0, .int 0, .int 1])), (r5, .inl (cI, 8, .inl f_1))] (hP.sub [0, 2] rfl) (hD.sub [0, 2] (by decide) rfl) (⟨f_1, rfl, rfl⟩) dX2_search_92
set_option maxHeartbeats 4000000 in
set_option maxRecDepth 100000 in
theorem k0_X0_take (l : Launch) (D : va_G) (cI cJ : ClassId) (h0 : Nat) (h1 : Nat) (h2 : Nat) (nn : Nat) (z : Int32) : ctV l yX0_take wsX0_take ({ frames := 0, cells := 0, slots := 0, locals := 0 } : Room) D (tyIJ cI cJ) [.ref h0, .ref nn, .int 0, .int 0] [(h0, .inr (0, [.ref h1, .ref h2, .int z]))] (fun (u : va_W) => u = [(h0, .inr (0, [.ref h1, .ref h2, .int 0]))]) := by
  refine ctV.of (cc := cX0_take) (maxL := 6) (ret := none) (by decide) rfl (Nat.le_of_ble_eq_true rfl) ?_
  intro p e s m below meth c ls A hx hb hr hts hown hml hlocks hname hA hK hN hP hD hS hl
  have hl : lv_has ls 6 [(0, .ref h0), (1, .ref nn), (2, .int 0), (3, .int 0)] := hl
  have hown : s.vm.findClass RX0 = some m.cls := hown
  have hi0 : ∀ w ∈ u_ws RX0 TX0 3, w ∈ wsX0_take := by decide +kernel
  have fl19 := hts (.fieldLink RX0 19 "PlaneColumn$Climbs" "longest" "I") (by decide +kernel)
  refine lv_aload_n hx hb dX0_take_0 rfl (lv_at hl 0 rfl) ?_
  refine lv_iconst (v := 0) hx hb dX0_take_1 (by decide +kernel) ?_
  refine va_put (ci := 0) (v := .int 0) (ty := (.int)) (C := RX0) (T := TX0) (N := 3) hx hb hts hi0 tyX0 tyX0_ok nmX0 hown hK hP hD hS 0 rfl rfl 2 (by decide) fl19 (fun _ h9 => h9) rfl (by decide +kernel) rfl rfl (Nat.le_of_ble_eq_true rfl) dX0_take_2 (fun H locs hP hD hS => ?_)
  have hP : va_P D vwCl [(h0, .inr (0, [.ref h1, .ref h2, .int 0]))] H := hP
  have hD : va_D A [(h0, .inr (0, [.ref h1, .ref h2, .int 0]))] := hD
  refine lv_iload_n hx hb dX0_take_5 rfl (lv_at hl 2 rfl) ?_
  refine lv_istore (lv' := [(4, .int 0), (0, .ref h0), (1, .ref nn), (2, .int 0), (3, .int 0)]) hx hb dX0_take_6 hl (by decide) rfl (fun ls hl => ?_)
  refine lv_iload hx hb dX0_take_8 (lv_at hl 0 rfl) ?_
  refine lv_iload_n hx hb dX0_take_10 rfl (lv_at hl 4 rfl) ?_
  refine lv_icmp_ge (tgt := 89) hx hb dX0_take_11 (by decide) (fun c11 => ?_) (fun c11 => ?_)
  ·
    exact my_retV hx hb hr hlocks hK hS [(h0, .inr (0, [.ref h1, .ref h2, .int 0]))] (hP.sub [0] rfl) (hD.sub [0] (by decide) rfl) (rfl) dX0_take_89
  ·
    exact absurd c11 (by decide +kernel)
set_option maxHeartbeats 4000000 in
set_option maxRecDepth 100000 in
theorem k0_X0_leastEnd (l : Launch) (D : va_G) (cI cJ : ClassId) (h0 : Nat) (h1 : Nat) (h2 : Nat) (nn : Nat) (z : Int32) : cpI l yX0_leastEnd wsX0_leastEnd ({ frames := 0, cells := 0, slots := 0, locals := 0 } : Room) D (tyIJ cI cJ) [.ref h0, .ref nn, .int 0, .int 0] [(h0, .inr (0, [.ref h1, .ref h2, .int z]))] (fun (r : Int32) => r = (-1)) := by
  refine cpI.of (cc := cX0_leastEnd) (maxL := 6) (ret := (some .int)) (by decide) rfl (Nat.le_of_ble_eq_true rfl) ?_
  intro p e s m below meth c ls hx hb hr hts hown hml hlocks hname hK hN hP hl
  have hl : lv_has ls 6 [(0, .ref h0), (1, .ref nn), (2, .int 0), (3, .int 0)] := hl
  have hown : s.vm.findClass RX0 = some m.cls := hown
  refine lv_iconst (v := (-1)) hx hb dX0_leastEnd_0 (by decide +kernel) ?_
  refine lv_istore (lv' := [(4, .int (-1)), (0, .ref h0), (1, .ref nn), (2, .int 0), (3, .int 0)]) hx hb dX0_leastEnd_1 hl (by decide) rfl (fun ls hl => ?_)
  refine lv_iload_n hx hb dX0_leastEnd_3 rfl (lv_at hl 3 rfl) ?_
  refine lv_istore (lv' := [(5, .int 0), (4, .int (-1)), (0, .ref h0), (1, .ref nn), (2, .int 0), (3, .int 0)]) hx hb dX0_leastEnd_4 hl (by decide) rfl (fun ls hl => ?_)
  refine lv_iload hx hb dX0_leastEnd_6 (lv_at hl 0 rfl) ?_
  refine lv_iload_n hx hb dX0_leastEnd_8 rfl (lv_at hl 5 rfl) ?_
  refine lv_icmp_ge (tgt := 53) hx hb dX0_leastEnd_9 (by decide) (fun c9 => ?_) (fun c9 => ?_)
  ·
    refine lv_iload hx hb dX0_leastEnd_53 (lv_at hl 1 rfl) ?_
    exact my_rpI hx hb hr hlocks (rfl) dX0_leastEnd_55
  ·
    exact absurd c9 (by decide +kernel)
set_option maxHeartbeats 4000000 in
set_option maxRecDepth 100000 in
theorem k0_X0_waysToLongest (l : Launch) (D : va_G) (cI cJ : ClassId) (h0 : Nat) (h1 : Nat) (h2 : Nat) (z : Int32) : cpL l yX0_waysToLongest wsX0_waysToLongest ({ frames := 0, cells := 0, slots := 0, locals := 0 } : Room) D (tyIJ cI cJ) [.ref h0, .int 0, .int 0] [(h0, .inr (0, [.ref h1, .ref h2, .int z]))] (fun (r : Int64) => r = 0) := by
  refine cpL.of (cc := cX0_waysToLongest) (maxL := 6) (ret := (some .long)) (by decide) rfl (Nat.le_of_ble_eq_true rfl) ?_
  intro p e s m below meth c ls hx hb hr hts hown hml hlocks hname hK hN hP hl
  have hl : lv_has ls 6 [(0, .ref h0), (1, .int 0), (2, .int 0)] := hl
  have hown : s.vm.findClass RX0 = some m.cls := hown
  refine lv_lconst (v := 0) hx hb dX0_waysToLongest_0 (by decide +kernel) ?_
  refine lv_lstore_n (lv' := [(3, .long 0), (0, .ref h0), (1, .int 0), (2, .int 0)]) hx hb dX0_waysToLongest_1 rfl hl (by decide) rfl (fun ls hl => ?_)
  refine lv_iload_n hx hb dX0_waysToLongest_2 rfl (lv_at hl 2 rfl) ?_
  refine lv_istore (lv' := [(5, .int 0), (3, .long 0), (0, .ref h0), (1, .int 0), (2, .int 0)]) hx hb dX0_waysToLongest_3 hl (by decide) rfl (fun ls hl => ?_)
  refine lv_iload hx hb dX0_waysToLongest_5 (lv_at hl 0 rfl) ?_
  refine lv_iload_n hx hb dX0_waysToLongest_7 rfl (lv_at hl 4 rfl) ?_
  refine lv_icmp_ge (tgt := 41) hx hb dX0_waysToLongest_8 (by decide) (fun c8 => ?_) (fun c8 => ?_)
  ·
    refine lv_lload_n hx hb dX0_waysToLongest_41 rfl (lv_at hl 1 rfl) ?_
    exact my_rpL hx hb hr hlocks (rfl) dX0_waysToLongest_42
  ·
    exact absurd c8 (by decide +kernel)
set_option maxHeartbeats 4000000 in
set_option maxRecDepth 100000 in
theorem k0_X8_unlikeNumbers (l : Launch) (D : va_G) (cI cJ : ClassId) (x0 : Nat) (xn : Nat) (xl : Nat) (xt : Nat) (xo : Nat) (xf : Nat) (xs : Nat) (xp : Nat) (xq : Nat) (xr : Nat) (xc : Nat) : cpI l yX8_unlikeNumbers wsX8_unlikeNumbers ({ frames := 0, cells := 0, slots := 0, locals := 0 } : Room) D (tyIJ cI cJ) [.ref x0] [(x0, .inr (8, [.ref xn, .int 0, .ref xl, .ref xt, .ref xo, .ref xf, .ref xs, .ref xp, .ref xq, .ref xr, .ref xc]))] (fun (r : Int32) => r = 0) := by
  refine cpI.of (cc := cX8_unlikeNumbers) (maxL := 3) (ret := (some .int)) (by decide) rfl (Nat.le_of_ble_eq_true rfl) ?_
  intro p e s m below meth c ls hx hb hr hts hown hml hlocks hname hK hN hP hl
  have hl : lv_has ls 3 [(0, .ref x0)] := hl
  have hown : s.vm.findClass RX8 = some m.cls := hown
  have hi8 : ∀ w ∈ u_ws RX8 TX8 11, w ∈ wsX8_unlikeNumbers := by decide +kernel
  have fl13 := hts (.fieldLink RX8 13 "PlaneColumn" "size" "I") (by decide +kernel)
  refine lv_iconst (v := 0) hx hb dX8_unlikeNumbers_0 (by decide +kernel) ?_
  refine lv_istore_n (lv' := [(1, .int 0), (0, .ref x0)]) hx hb dX8_unlikeNumbers_1 rfl hl (by decide) rfl (fun ls hl => ?_)
  refine lv_iconst (v := 0) hx hb dX8_unlikeNumbers_2 (by decide +kernel) ?_
  refine lv_istore_n (lv' := [(2, .int 0), (1, .int 0), (0, .ref x0)]) hx hb dX8_unlikeNumbers_3 rfl hl (by decide) rfl (fun ls hl => ?_)
  refine lv_iload_n hx hb dX8_unlikeNumbers_4 rfl (lv_at hl 0 rfl) ?_
  refine lv_aload_n hx hb dX8_unlikeNumbers_5 rfl (lv_at hl 2 rfl) ?_
  refine va_get (ci := 8) (v := .int 0) (C := RX8) (T := TX8) (N := 11) hx hb hts hi8 hown hK hP 0 rfl rfl 1 (by decide) fl13 (fun _ h9 => h9) rfl dX8_unlikeNumbers_6 ?_
  refine lv_icmp_ge (tgt := 36) hx hb dX8_unlikeNumbers_9 (by decide) (fun c9 => ?_) (fun c9 => ?_)
  ·
    refine lv_iload_n hx hb dX8_unlikeNumbers_36 rfl (lv_at hl 1 rfl) ?_
    exact my_rpI hx hb hr hlocks (rfl) dX8_unlikeNumbers_37
  ·
    exact absurd c9 (by decide +kernel)
set_option maxHeartbeats 4000000 in
set_option maxRecDepth 100000 in
theorem k0_X8_sumOfAll (l : Launch) (D : va_G) (cI cJ : ClassId) (x0 : Nat) (xn : Nat) (xl : Nat) (xt : Nat) (xo : Nat) (xf : Nat) (xs : Nat) (xp : Nat) (xq : Nat) (xr : Nat) (xc : Nat) : cpI l yX8_sumOfAll wsX8_sumOfAll ({ frames := 0, cells := 0, slots := 0, locals := 0 } : Room) D (tyIJ cI cJ) [.ref x0] [(x0, .inr (8, [.ref xn, .int 0, .ref xl, .ref xt, .ref xo, .ref xf, .ref xs, .ref xp, .ref xq, .ref xr, .ref xc]))] (fun (r : Int32) => r = 0) := by
  refine cpI.of (cc := cX8_sumOfAll) (maxL := 3) (ret := (some .int)) (by decide) rfl (Nat.le_of_ble_eq_true rfl) ?_
  intro p e s m below meth c ls hx hb hr hts hown hml hlocks hname hK hN hP hl
  have hl : lv_has ls 3 [(0, .ref x0)] := hl
  have hown : s.vm.findClass RX8 = some m.cls := hown
  have hi8 : ∀ w ∈ u_ws RX8 TX8 11, w ∈ wsX8_sumOfAll := by decide +kernel
  have fl13 := hts (.fieldLink RX8 13 "PlaneColumn" "size" "I") (by decide +kernel)
  refine lv_iconst (v := 0) hx hb dX8_sumOfAll_0 (by decide +kernel) ?_
  refine lv_istore_n (lv' := [(1, .int 0), (0, .ref x0)]) hx hb dX8_sumOfAll_1 rfl hl (by decide) rfl (fun ls hl => ?_)
  refine lv_iconst (v := 0) hx hb dX8_sumOfAll_2 (by decide +kernel) ?_
  refine lv_istore_n (lv' := [(2, .int 0), (1, .int 0), (0, .ref x0)]) hx hb dX8_sumOfAll_3 rfl hl (by decide) rfl (fun ls hl => ?_)
  refine lv_iload_n hx hb dX8_sumOfAll_4 rfl (lv_at hl 0 rfl) ?_
  refine lv_aload_n hx hb dX8_sumOfAll_5 rfl (lv_at hl 2 rfl) ?_
  refine va_get (ci := 8) (v := .int 0) (C := RX8) (T := TX8) (N := 11) hx hb hts hi8 hown hK hP 0 rfl rfl 1 (by decide) fl13 (fun _ h9 => h9) rfl dX8_sumOfAll_6 ?_
  refine lv_icmp_ge (tgt := 27) hx hb dX8_sumOfAll_9 (by decide) (fun c9 => ?_) (fun c9 => ?_)
  ·
    refine lv_iload_n hx hb dX8_sumOfAll_27 rfl (lv_at hl 1 rfl) ?_
    exact my_rpI hx hb hr hlocks (rfl) dX8_sumOfAll_28
  ·
    exact absurd c9 (by decide +kernel)
set_option maxHeartbeats 4000000 in
set_option maxRecDepth 100000 in
theorem k0_X8_onesOfAll (l : Launch) (D : va_G) (cI cJ : ClassId) (x0 : Nat) (xn : Nat) (xl : Nat) (xt : Nat) (xo : Nat) (xf : Nat) (xs : Nat) (xp : Nat) (xq : Nat) (xr : Nat) (xc : Nat) : cpI l yX8_onesOfAll wsX8_onesOfAll ({ frames := 0, cells := 0, slots := 0, locals := 0 } : Room) D (tyIJ cI cJ) [.ref x0] [(x0, .inr (8, [.ref xn, .int 0, .ref xl, .ref xt, .ref xo, .ref xf, .ref xs, .ref xp, .ref xq, .ref xr, .ref xc]))] (fun (r : Int32) => r = 0) := by
  refine cpI.of (cc := cX8_onesOfAll) (maxL := 3) (ret := (some .int)) (by decide) rfl (Nat.le_of_ble_eq_true rfl) ?_
  intro p e s m below meth c ls hx hb hr hts hown hml hlocks hname hK hN hP hl
  have hl : lv_has ls 3 [(0, .ref x0)] := hl
  have hown : s.vm.findClass RX8 = some m.cls := hown
  have hi8 : ∀ w ∈ u_ws RX8 TX8 11, w ∈ wsX8_onesOfAll := by decide +kernel
  have fl13 := hts (.fieldLink RX8 13 "PlaneColumn" "size" "I") (by decide +kernel)
  refine lv_iconst (v := 0) hx hb dX8_onesOfAll_0 (by decide +kernel) ?_
  refine lv_istore_n (lv' := [(1, .int 0), (0, .ref x0)]) hx hb dX8_onesOfAll_1 rfl hl (by decide) rfl (fun ls hl => ?_)
  refine lv_iconst (v := 0) hx hb dX8_onesOfAll_2 (by decide +kernel) ?_
  refine lv_istore_n (lv' := [(2, .int 0), (1, .int 0), (0, .ref x0)]) hx hb dX8_onesOfAll_3 rfl hl (by decide) rfl (fun ls hl => ?_)
  refine lv_iload_n hx hb dX8_onesOfAll_4 rfl (lv_at hl 0 rfl) ?_
  refine lv_aload_n hx hb dX8_onesOfAll_5 rfl (lv_at hl 2 rfl) ?_
  refine va_get (ci := 8) (v := .int 0) (C := RX8) (T := TX8) (N := 11) hx hb hts hi8 hown hK hP 0 rfl rfl 1 (by decide) fl13 (fun _ h9 => h9) rfl dX8_onesOfAll_6 ?_
  refine lv_icmp_ge (tgt := 30) hx hb dX8_onesOfAll_9 (by decide) (fun c9 => ?_) (fun c9 => ?_)
  ·
    refine lv_iload_n hx hb dX8_onesOfAll_30 rfl (lv_at hl 1 rfl) ?_
    exact my_rpI hx hb hr hlocks (rfl) dX8_onesOfAll_31
  ·
    exact absurd c9 (by decide +kernel)
set_option maxHeartbeats 4000000 in
set_option maxRecDepth 100000 in
theorem k0_X8_timesIn (l : Launch) (D : va_G) (cI cJ : ClassId) (x0 : Nat) (xn : Nat) (xl : Nat) (xt : Nat) (xo : Nat) (xf : Nat) (xs : Nat) (xp : Nat) (xq : Nat) (xr : Nat) (xc : Nat) (v : Int32) : cpI l yX8_timesIn wsX8_timesIn ({ frames := 0, cells := 0, slots := 0, locals := 0 } : Room) D (tyIJ cI cJ) [.ref x0, .int v, .int 0, .int 0] [(x0, .inr (8, [.ref xn, .int 0, .ref xl, .ref xt, .ref xo, .ref xf, .ref xs, .ref xp, .ref xq, .ref xr, .ref xc]))] (fun (r : Int32) => r = 0) := by
  refine cpI.of (cc := cX8_timesIn) (maxL := 6) (ret := (some .int)) (by decide) rfl (Nat.le_of_ble_eq_true rfl) ?_
  intro p e s m below meth c ls hx hb hr hts hown hml hlocks hname hK hN hP hl
  have hl : lv_has ls 6 [(0, .ref x0), (1, .int v), (2, .int 0), (3, .int 0)] := hl
  have hown : s.vm.findClass RX8 = some m.cls := hown
  refine lv_iconst (v := 0) hx hb dX8_timesIn_0 (by decide +kernel) ?_
  refine lv_istore (lv' := [(4, .int 0), (0, .ref x0), (1, .int v), (2, .int 0), (3, .int 0)]) hx hb dX8_timesIn_1 hl (by decide) rfl (fun ls hl => ?_)
  refine lv_iload_n hx hb dX8_timesIn_3 rfl (lv_at hl 3 rfl) ?_
  refine lv_istore (lv' := [(5, .int 0), (4, .int 0), (0, .ref x0), (1, .int v), (2, .int 0), (3, .int 0)]) hx hb dX8_timesIn_4 hl (by decide) rfl (fun ls hl => ?_)
  refine lv_iload hx hb dX8_timesIn_6 (lv_at hl 0 rfl) ?_
  refine lv_iload_n hx hb dX8_timesIn_8 rfl (lv_at hl 5 rfl) ?_
  refine lv_icmp_ge (tgt := 32) hx hb dX8_timesIn_9 (by decide) (fun c9 => ?_) (fun c9 => ?_)
  ·
    refine lv_iload hx hb dX8_timesIn_32 (lv_at hl 1 rfl) ?_
    exact my_rpI hx hb hr hlocks (rfl) dX8_timesIn_34
  ·
    exact absurd c9 (by decide +kernel)
