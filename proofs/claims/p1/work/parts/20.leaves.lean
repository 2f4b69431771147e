set_option maxHeartbeats 4000000 in
set_option maxRecDepth 100000 in
theorem k_X8_isNumber (l : Launch) (D : va_G) (cI cJ : ClassId) (v : Int32) : cpI l yX8_isNumber wsX8_isNumber ({ frames := 0, cells := 0, slots := 0, locals := 0 } : Room) D (tyIJ cI cJ) [.int v] [] (fun (r : Int32) => (r = 1 ∧ 0 ≤ v.toInt ∧ v.toInt ≤ 255) ∨ (r = 0 ∧ (v.toInt < 0 ∨ 255 < v.toInt))) := by
  refine cpI.of (cc := cX8_isNumber) (maxL := 1) (ret := (some .boolean)) (by decide) rfl (Nat.le_of_ble_eq_true rfl) ?_
  intro p e s m below meth c ls hx hb hr hts hown hml hlocks hname hK hN hP hl
  have hl : lv_has ls 1 [(0, .int v)] := hl
  have hown : s.vm.findClass RX8 = some m.cls := hown
  refine lv_iload_n hx hb dX8_isNumber_0 rfl (lv_at hl 0 rfl) ?_
  refine lv_if_lt (tgt := 15) hx hb dX8_isNumber_1 (by decide) (fun c1 => ?_) (fun c1 => ?_)
  ·
    have d1 : v.toInt < (0 : Int) := my_lt c1 rfl (by decide +kernel)
    refine lv_iconst (v := 0) hx hb dX8_isNumber_15 (by decide +kernel) ?_
    exact my_rpZ hx hb hr hlocks (by decide +kernel) (Or.inr (⟨rfl, (by first | omega | assumption | trivial | decide +kernel)⟩)) dX8_isNumber_16
  ·
    have d1 : v.toInt ≥ (0 : Int) := my_nlt c1 rfl (by decide +kernel)
    refine lv_iload_n hx hb dX8_isNumber_4 rfl (lv_at hl 0 rfl) ?_
    refine lv_sipush (v := 255) hx hb dX8_isNumber_5 (by decide +kernel) ?_
    refine lv_icmp_gt (tgt := 15) hx hb dX8_isNumber_8 (by decide) (fun c8 => ?_) (fun c8 => ?_)
    ·
      have d8 : v.toInt > (255 : Int) := my_gt c8 rfl (by decide +kernel)
      refine lv_iconst (v := 0) hx hb dX8_isNumber_15 (by decide +kernel) ?_
      exact my_rpZ hx hb hr hlocks (by decide +kernel) (Or.inr (⟨rfl, (by first | omega | assumption | trivial | decide +kernel)⟩)) dX8_isNumber_16
    ·
      have d8 : v.toInt ≤ (255 : Int) := my_ngt c8 rfl (by decide +kernel)
      refine lv_iconst (v := 1) hx hb dX8_isNumber_11 (by decide +kernel) ?_
      refine lv_goto (tgt := 16) hx hb dX8_isNumber_12 (by decide) ?_
      exact my_rpZ hx hb hr hlocks (by decide +kernel) (Or.inl ⟨rfl, (by first | omega | assumption | trivial | decide +kernel), (by first | omega | assumption | trivial | decide +kernel)⟩) dX8_isNumber_16
set_option maxHeartbeats 4000000 in
set_option maxRecDepth 100000 in
theorem k_X8_isTimes (l : Launch) (D : va_G) (cI cJ : ClassId) (v : Int32) : cpI l yX8_isTimes wsX8_isTimes ({ frames := 0, cells := 0, slots := 0, locals := 0 } : Room) D (tyIJ cI cJ) [.int v] [] (fun (r : Int32) => (r = 1 ∧ 1 ≤ v.toInt ∧ v.toInt ≤ 64) ∨ (r = 0 ∧ (v.toInt < 1 ∨ 64 < v.toInt))) := by
  refine cpI.of (cc := cX8_isTimes) (maxL := 1) (ret := (some .boolean)) (by decide) rfl (Nat.le_of_ble_eq_true rfl) ?_
  intro p e s m below meth c ls hx hb hr hts hown hml hlocks hname hK hN hP hl
  have hl : lv_has ls 1 [(0, .int v)] := hl
  have hown : s.vm.findClass RX8 = some m.cls := hown
  refine lv_iload_n hx hb dX8_isTimes_0 rfl (lv_at hl 0 rfl) ?_
  refine lv_iconst (v := 1) hx hb dX8_isTimes_1 (by decide +kernel) ?_
  refine lv_icmp_lt (tgt := 15) hx hb dX8_isTimes_2 (by decide) (fun c2 => ?_) (fun c2 => ?_)
  ·
    have d2 : v.toInt < (1 : Int) := my_lt c2 rfl (by decide +kernel)
    refine lv_iconst (v := 0) hx hb dX8_isTimes_15 (by decide +kernel) ?_
    exact my_rpZ hx hb hr hlocks (by decide +kernel) (Or.inr (⟨rfl, (by first | omega | assumption | trivial | decide +kernel)⟩)) dX8_isTimes_16
  ·
    have d2 : v.toInt ≥ (1 : Int) := my_nlt c2 rfl (by decide +kernel)
    refine lv_iload_n hx hb dX8_isTimes_5 rfl (lv_at hl 0 rfl) ?_
    refine lv_bipush (v := 64) hx hb dX8_isTimes_6 (by decide +kernel) ?_
    refine lv_icmp_gt (tgt := 15) hx hb dX8_isTimes_8 (by decide) (fun c8 => ?_) (fun c8 => ?_)
    ·
      have d8 : v.toInt > (64 : Int) := my_gt c8 rfl (by decide +kernel)
      refine lv_iconst (v := 0) hx hb dX8_isTimes_15 (by decide +kernel) ?_
      exact my_rpZ hx hb hr hlocks (by decide +kernel) (Or.inr (⟨rfl, (by first | omega | assumption | trivial | decide +kernel)⟩)) dX8_isTimes_16
    ·
      have d8 : v.toInt ≤ (64 : Int) := my_ngt c8 rfl (by decide +kernel)
      refine lv_iconst (v := 1) hx hb dX8_isTimes_11 (by decide +kernel) ?_
      refine lv_goto (tgt := 16) hx hb dX8_isTimes_12 (by decide) ?_
      exact my_rpZ hx hb hr hlocks (by decide +kernel) (Or.inl ⟨rfl, (by first | omega | assumption | trivial | decide +kernel), (by first | omega | assumption | trivial | decide +kernel)⟩) dX8_isTimes_16
set_option maxHeartbeats 4000000 in
set_option maxRecDepth 100000 in
/-- no NUMBERS: the one SPAN is 0, 0 -/
theorem k0_X8_isSpan (l : Launch) (D : va_G) (cI cJ : ClassId) (x0 : Nat) (xn : Nat) (xl : Nat) (xt : Nat) (xo : Nat) (xf : Nat) (xs : Nat) (xp : Nat) (xq : Nat) (xr : Nat) (xc : Nat) (l9 : Int32) (r9 : Int32) : cpI l yX8_isSpan wsX8_isSpan ({ frames := 0, cells := 0, slots := 0, locals := 0 } : Room) D (tyIJ cI cJ) [.ref x0, .int l9, .int r9] [(x0, .inr (8, [.ref xn, .int 0, .ref xl, .ref xt, .ref xo, .ref xf, .ref xs, .ref xp, .ref xq, .ref xr, .ref xc]))] (fun (r : Int32) => (r = 1 ∧ l9 = 0 ∧ r9 = 0) ∨ (r = 0 ∧ (l9.toInt < 0 ∨ r9.toInt < l9.toInt ∨ 0 < r9.toInt))) := by
  refine cpI.of (cc := cX8_isSpan) (maxL := 3) (ret := (some .boolean)) (by decide) rfl (Nat.le_of_ble_eq_true rfl) ?_
  intro p e s m below meth c ls hx hb hr hts hown hml hlocks hname hK hN hP hl
  have hl : lv_has ls 3 [(0, .ref x0), (1, .int l9), (2, .int r9)] := hl
  have hown : s.vm.findClass RX8 = some m.cls := hown
  have hi8 : ∀ w ∈ u_ws RX8 TX8 11, w ∈ wsX8_isSpan := by decide +kernel
  have fl13 := hts (.fieldLink RX8 13 "PlaneColumn" "size" "I") (by decide +kernel)
  refine lv_iload_n hx hb dX8_isSpan_0 rfl (lv_at hl 1 rfl) ?_
  refine lv_if_lt (tgt := 21) hx hb dX8_isSpan_1 (by decide) (fun c1 => ?_) (fun c1 => ?_)
  ·
    have d1 : l9.toInt < (0 : Int) := my_lt c1 rfl (by decide +kernel)
    refine lv_iconst (v := 0) hx hb dX8_isSpan_21 (by decide +kernel) ?_
    exact my_rpZ hx hb hr hlocks (by decide +kernel) (Or.inr (⟨rfl, (by first | omega | assumption | trivial | decide +kernel)⟩)) dX8_isSpan_22
  ·
    have d1 : l9.toInt ≥ (0 : Int) := my_nlt c1 rfl (by decide +kernel)
    refine lv_iload_n hx hb dX8_isSpan_4 rfl (lv_at hl 1 rfl) ?_
    refine lv_iload_n hx hb dX8_isSpan_5 rfl (lv_at hl 2 rfl) ?_
    refine lv_icmp_gt (tgt := 21) hx hb dX8_isSpan_6 (by decide) (fun c6 => ?_) (fun c6 => ?_)
    ·
      have d6 : l9.toInt > r9.toInt := my_gt c6 rfl rfl
      refine lv_iconst (v := 0) hx hb dX8_isSpan_21 (by decide +kernel) ?_
      exact my_rpZ hx hb hr hlocks (by decide +kernel) (Or.inr (⟨rfl, (by first | omega | assumption | trivial | decide +kernel)⟩)) dX8_isSpan_22
    ·
      have d6 : l9.toInt ≤ r9.toInt := my_ngt c6 rfl rfl
      refine lv_iload_n hx hb dX8_isSpan_9 rfl (lv_at hl 2 rfl) ?_
      refine lv_aload_n hx hb dX8_isSpan_10 rfl (lv_at hl 0 rfl) ?_
      refine va_get (ci := 8) (v := .int 0) (C := RX8) (T := TX8) (N := 11) hx hb hts hi8 hown hK hP 0 rfl rfl 1 (by decide) fl13 (fun _ h9 => h9) rfl dX8_isSpan_11 ?_
      refine lv_icmp_gt (tgt := 21) hx hb dX8_isSpan_14 (by decide) (fun c14 => ?_) (fun c14 => ?_)
      ·
        have d14 : r9.toInt > (0 : Int) := my_gt c14 rfl (by decide +kernel)
        refine lv_iconst (v := 0) hx hb dX8_isSpan_21 (by decide +kernel) ?_
        exact my_rpZ hx hb hr hlocks (by decide +kernel) (Or.inr (⟨rfl, (by first | omega | assumption | trivial | decide +kernel)⟩)) dX8_isSpan_22
      ·
        have d14 : r9.toInt ≤ (0 : Int) := my_ngt c14 rfl (by decide +kernel)
        refine lv_iconst (v := 1) hx hb dX8_isSpan_17 (by decide +kernel) ?_
        refine lv_goto (tgt := 22) hx hb dX8_isSpan_18 (by decide) ?_
        exact my_rpZ hx hb hr hlocks (by decide +kernel) (Or.inl ⟨rfl, (by first | rfl | exact my_eqI (a := 0) (by omega) (by decide +kernel)), (by first | rfl | exact my_eqI (a := 0) (by omega) (by decide +kernel))⟩) dX8_isSpan_22
set_option maxHeartbeats 4000000 in
set_option maxRecDepth 100000 in
theorem k0_X8_isPlace (l : Launch) (D : va_G) (cI cJ : ClassId) (x0 : Nat) (xn : Nat) (xl : Nat) (xt : Nat) (xo : Nat) (xf : Nat) (xs : Nat) (xp : Nat) (xq : Nat) (xr : Nat) (xc : Nat) (p9 : Int32) : cpI l yX8_isPlace wsX8_isPlace ({ frames := 0, cells := 0, slots := 0, locals := 0 } : Room) D (tyIJ cI cJ) [.ref x0, .int p9] [(x0, .inr (8, [.ref xn, .int 0, .ref xl, .ref xt, .ref xo, .ref xf, .ref xs, .ref xp, .ref xq, .ref xr, .ref xc]))] (fun (r : Int32) => r = 0) := by
  refine cpI.of (cc := cX8_isPlace) (maxL := 2) (ret := (some .boolean)) (by decide) rfl (Nat.le_of_ble_eq_true rfl) ?_
  intro p e s m below meth c ls hx hb hr hts hown hml hlocks hname hK hN hP hl
  have hl : lv_has ls 2 [(0, .ref x0), (1, .int p9)] := hl
  have hown : s.vm.findClass RX8 = some m.cls := hown
  have hi8 : ∀ w ∈ u_ws RX8 TX8 11, w ∈ wsX8_isPlace := by decide +kernel
  have fl13 := hts (.fieldLink RX8 13 "PlaneColumn" "size" "I") (by decide +kernel)
  refine lv_iload_n hx hb dX8_isPlace_0 rfl (lv_at hl 1 rfl) ?_
  refine lv_if_lt (tgt := 16) hx hb dX8_isPlace_1 (by decide) (fun c1 => ?_) (fun c1 => ?_)
  ·
    have d1 : p9.toInt < (0 : Int) := my_lt c1 rfl (by decide +kernel)
    refine lv_iconst (v := 0) hx hb dX8_isPlace_16 (by decide +kernel) ?_
    exact my_rpZ hx hb hr hlocks (by decide +kernel) (rfl) dX8_isPlace_17
  ·
    have d1 : p9.toInt ≥ (0 : Int) := my_nlt c1 rfl (by decide +kernel)
    refine lv_iload_n hx hb dX8_isPlace_4 rfl (lv_at hl 1 rfl) ?_
    refine lv_aload_n hx hb dX8_isPlace_5 rfl (lv_at hl 0 rfl) ?_
    refine va_get (ci := 8) (v := .int 0) (C := RX8) (T := TX8) (N := 11) hx hb hts hi8 hown hK hP 0 rfl rfl 1 (by decide) fl13 (fun _ h9 => h9) rfl dX8_isPlace_6 ?_
    refine lv_icmp_ge (tgt := 16) hx hb dX8_isPlace_9 (by decide) (fun c9 => ?_) (fun c9 => ?_)
    ·
      have d9 : p9.toInt ≥ (0 : Int) := my_ge c9 rfl (by decide +kernel)
      refine lv_iconst (v := 0) hx hb dX8_isPlace_16 (by decide +kernel) ?_
      exact my_rpZ hx hb hr hlocks (by decide +kernel) (rfl) dX8_isPlace_17
    ·
      have d9 : p9.toInt < (0 : Int) := my_nge c9 rfl (by decide +kernel)
      refine lv_iconst (v := 1) hx hb dX8_isPlace_12 (by decide +kernel) ?_
      refine lv_goto (tgt := 17) hx hb dX8_isPlace_13 (by decide) ?_
      exfalso; omega
set_option maxHeartbeats 4000000 in
set_option maxRecDepth 100000 in
theorem k_X7_begin (l : Launch) (D : va_G) (cI cJ : ClassId) (h0 : Nat) (h1 : Nat) (z : Int32) : ctV l yX7_begin wsX7_begin ({ frames := 0, cells := 0, slots := 0, locals := 0 } : Room) D (tyIJ cI cJ) [.ref h0] [(h0, .inr (7, [.ref h1, .int z]))] (fun (u : va_W) => u = [(h0, .inr (7, [.ref h1, .int 0]))]) := by
  refine ctV.of (cc := cX7_begin) (maxL := 1) (ret := none) (by decide) rfl (Nat.le_of_ble_eq_true rfl) ?_
  intro p e s m below meth c ls A hx hb hr hts hown hml hlocks hname hA hK hN hP hD hS hl
  have hl : lv_has ls 1 [(0, .ref h0)] := hl
  have hown : s.vm.findClass RX7 = some m.cls := hown
  have hi7 : ∀ w ∈ u_ws RX7 TX7 2, w ∈ wsX7_begin := by decide +kernel
  have fl13 := hts (.fieldLink RX7 13 "PlaneColumn$Told" "size" "I") (by decide +kernel)
  refine lv_aload_n hx hb dX7_begin_0 rfl (lv_at hl 0 rfl) ?_
  refine lv_iconst (v := 0) hx hb dX7_begin_1 (by decide +kernel) ?_
  refine va_put (ci := 7) (v := .int 0) (ty := (.int)) (C := RX7) (T := TX7) (N := 2) hx hb hts hi7 tyX7 tyX7_ok nmX7 hown hK hP hD hS 0 rfl rfl 1 (by decide) fl13 (fun _ h9 => h9) rfl (by decide +kernel) rfl rfl (Nat.le_of_ble_eq_true rfl) dX7_begin_2 (fun H locs hP hD hS => ?_)
  have hP : va_P D vwCl [(h0, .inr (7, [.ref h1, .int 0]))] H := hP
  have hD : va_D A [(h0, .inr (7, [.ref h1, .int 0]))] := hD
  exact my_retV hx hb hr hlocks hK hS [(h0, .inr (7, [.ref h1, .int 0]))] (hP.sub [0] rfl) (hD.sub [0] (by decide) rfl) (rfl) dX7_begin_5
set_option maxHeartbeats 4000000 in
set_option maxRecDepth 100000 in
theorem k_X7_add (l : Launch) (D : va_G) (cI cJ : ClassId) (h0 : Nat) (h1 : Nat) (k : Nat) (f : Nat → Int64) (v : Int64) (hk : k ≤ 64) : ctV l yX7_add wsX7_add ({ frames := 0, cells := 0, slots := 0, locals := 0 } : Room) D (tyIJ cI cJ) [.ref h0, .long v] [(h0, .inr (7, [.ref h1, .int (nI k)])), (h1, .inl (cJ, 64, .inr (.inl f)))] (fun (u : va_W) => ∃ (k' : Nat) (f' : Nat → Int64), u = [(h0, .inr (7, [.ref h1, .int (nI k')])), (h1, .inl (cJ, 64, .inr (.inl f')))] ∧ k' ≤ 64 ∧ (k < 64 → k' = k + 1 ∧ f' = vp_updL f k v)) := by
  refine ctV.of (cc := cX7_add) (maxL := 3) (ret := none) (by decide) rfl (Nat.le_of_ble_eq_true rfl) ?_
  intro p e s m below meth c ls A hx hb hr hts hown hml hlocks hname hA hK hN hP hD hS hl
  have hl : lv_has ls 3 [(0, .ref h0), (1, .long v)] := hl
  have hown : s.vm.findClass RX7 = some m.cls := hown
  have hi7 : ∀ w ∈ u_ws RX7 TX7 2, w ∈ wsX7_add := by decide +kernel
  have fl13 := hts (.fieldLink RX7 13 "PlaneColumn$Told" "size" "I") (by decide +kernel)
  have fl7 := hts (.fieldLink RX7 7 "PlaneColumn$Told" "values" "[J") (by decide +kernel)
  refine lv_aload_n hx hb dX7_add_0 rfl (lv_at hl 0 rfl) ?_
  refine va_get (ci := 7) (v := .int (nI k)) (C := RX7) (T := TX7) (N := 2) hx hb hts hi7 hown hK hP 0 rfl rfl 1 (by decide) fl13 (fun _ h9 => h9) rfl dX7_add_1 ?_
  refine lv_aload_n hx hb dX7_add_4 rfl (lv_at hl 0 rfl) ?_
  refine va_get (ci := 7) (v := .ref h1) (C := RX7) (T := TX7) (N := 2) hx hb hts hi7 hown hK hP 0 rfl rfl 0 (by decide) fl7 (fun _ h9 => h9) rfl dX7_add_5 ?_
  refine va_alen (v := 64) hx hb hK hP 1 1 rfl rfl rfl dX7_add_8 ?_
  refine lv_icmp_ge (tgt := 32) hx hb dX7_add_9 (by decide) (fun c9 => ?_) (fun c9 => ?_)
  ·
    have d9 : ((k : Nat) : Int) ≥ (64 : Int) := my_ge c9 (nI_toInt (by omega)) (by decide +kernel)
    exact my_retV hx hb hr hlocks hK hS [(h0, .inr (7, [.ref h1, .int (nI k)])), (h1, .inl (cJ, 64, .inr (.inl f)))] (hP.sub [0, 1] rfl) (hD.sub [0, 1] (by decide) rfl) (⟨k, f, rfl, (by first | omega | assumption | trivial | decide +kernel), (by intro h; first | exact ⟨rfl, rfl⟩ | (exfalso; omega))⟩) dX7_add_32
  ·
    have d9 : ((k : Nat) : Int) < (64 : Int) := my_nge c9 (nI_toInt (by omega)) (by decide +kernel)
    refine lv_aload_n hx hb dX7_add_12 rfl (lv_at hl 0 rfl) ?_
    refine va_get (ci := 7) (v := .ref h1) (C := RX7) (T := TX7) (N := 2) hx hb hts hi7 hown hK hP 0 rfl rfl 0 (by decide) fl7 (fun _ h9 => h9) rfl dX7_add_13 ?_
    refine lv_aload_n hx hb dX7_add_16 rfl (lv_at hl 0 rfl) ?_
    refine va_get (ci := 7) (v := .int (nI k)) (C := RX7) (T := TX7) (N := 2) hx hb hts hi7 hown hK hP 0 rfl rfl 1 (by decide) fl13 (fun _ h9 => h9) rfl dX7_add_17 ?_
    refine lv_lload_n hx hb dX7_add_20 rfl (lv_at hl 1 rfl) ?_
    refine va_last hx hb hK hP hD hS 1 1 rfl rfl (vp_in_nI (by omega) (by omega)) dX7_add_21 (fun H locs hP hD hS => ?_)
    have eU : vp_updL f (nI k : Int32).toNatClampNeg v = vp_updL f k v := by rw [show (nI k : Int32).toNatClampNeg = k from nI_clamp (by omega)]
    rw [eU] at hP hD
    have hP : va_P D vwCl [(h0, .inr (7, [.ref h1, .int (nI k)])), (h1, .inl (cJ, 64, .inr (.inl (vp_updL f k v))))] H := hP
    have hD : va_D A [(h0, .inr (7, [.ref h1, .int (nI k)])), (h1, .inl (cJ, 64, .inr (.inl (vp_updL f k v))))] := hD
    refine lv_aload_n hx hb dX7_add_22 rfl (lv_at hl 0 rfl) ?_
    refine lv_dup hx hb dX7_add_23 rfl ?_
    refine va_get (ci := 7) (v := .int (nI k)) (C := RX7) (T := TX7) (N := 2) hx hb hts hi7 hown hK hP 0 rfl rfl 1 (by decide) fl13 (fun _ h9 => h9) rfl dX7_add_24 ?_
    refine lv_iconst (v := 1) hx hb dX7_add_27 (by decide +kernel) ?_
    refine lv_iadd hx hb dX7_add_28 ?_
    refine my_eqi (y := nI (k + 1)) (my_addN k 1) ?_
    refine va_put (ci := 7) (v := .int (nI (k + 1))) (ty := (.int)) (C := RX7) (T := TX7) (N := 2) hx hb hts hi7 tyX7 tyX7_ok nmX7 hown hK hP hD hS 0 rfl rfl 1 (by decide) fl13 (fun _ h9 => h9) rfl (by decide +kernel) rfl rfl (Nat.le_of_ble_eq_true rfl) dX7_add_29 (fun H locs hP hD hS => ?_)
    have hP : va_P D vwCl [(h0, .inr (7, [.ref h1, .int (nI (k + 1))])), (h1, .inl (cJ, 64, .inr (.inl (vp_updL f k v))))] H := hP
    have hD : va_D A [(h0, .inr (7, [.ref h1, .int (nI (k + 1))])), (h1, .inl (cJ, 64, .inr (.inl (vp_updL f k v))))] := hD
    exact my_retV hx hb hr hlocks hK hS [(h0, .inr (7, [.ref h1, .int (nI (k + 1))])), (h1, .inl (cJ, 64, .inr (.inl (vp_updL f k v))))] (hP.sub [0, 1] rfl) (hD.sub [0, 1] (by decide) rfl) (⟨(k + 1), (vp_updL f k v), rfl, (by first | omega | assumption | trivial | decide +kernel), (by intro h; first | exact ⟨rfl, rfl⟩ | (exfalso; omega))⟩) dX7_add_32
set_option maxHeartbeats 4000000 in
set_option maxRecDepth 100000 in
theorem k_X8_tell (l : Launch) (D : va_G) (cI cJ : ClassId) (x0 : Nat) (xn : Nat) (xl : Nat) (xt : Nat) (xo : Nat) (xf : Nat) (xs : Nat) (xp : Nat) (xq : Nat) (xr : Nat) (xc : Nat) (h1 : Nat) (z : Int32) (y : Int32) (f : Nat → Int64) (v : Int64) : ctV l yX8_tell wsX8_tell ({ frames := 1, cells := 0, slots := 0, locals := 60 } : Room) D (tyIJ cI cJ) [.ref x0, .long v] [(x0, .inr (8, [.ref xn, .int z, .ref xl, .ref xt, .ref xo, .ref xf, .ref xs, .ref xp, .ref xq, .ref xr, .ref xc])), (xo, .inr (7, [.ref h1, .int y])), (h1, .inl (cJ, 64, .inr (.inl f)))] (fun (u : va_W) => ∃ (k' : Nat) (f' : Nat → Int64), u = [(x0, .inr (8, [.ref xn, .int z, .ref xl, .ref xt, .ref xo, .ref xf, .ref xs, .ref xp, .ref xq, .ref xr, .ref xc])), (xo, .inr (7, [.ref h1, .int (nI k')])), (h1, .inl (cJ, 64, .inr (.inl f')))] ∧ k' ≤ 64) := by
  refine ctV.of (cc := cX8_tell) (maxL := 3) (ret := none) (by decide) rfl (Nat.le_of_ble_eq_true rfl) ?_
  intro p e s m below meth c ls A hx hb hr hts hown hml hlocks hname hA hK hN hP hD hS hl
  have hl : lv_has ls 3 [(0, .ref x0), (1, .long v)] := hl
  have hown : s.vm.findClass RX8 = some m.cls := hown
  have hi8 : ∀ w ∈ u_ws RX8 TX8 11, w ∈ wsX8_tell := by decide +kernel
  have fl34 := hts (.fieldLink RX8 34 "PlaneColumn" "told" "LPlaneColumn$Told;") (by decide +kernel)
  refine lv_aload_n hx hb dX8_tell_0 rfl (lv_at hl 0 rfl) ?_
  refine va_get (ci := 8) (v := .ref xo) (C := RX8) (T := TX8) (N := 11) hx hb hts hi8 hown hK hP 0 rfl rfl 4 (by decide) fl34 (fun _ h9 => h9) rfl dX8_tell_1 ?_
  refine my_goV (wr := [(x0, .inr (8, [.ref xn, .int z, .ref xl, .ref xt, .ref xo, .ref xf, .ref xs, .ref xp, .ref xq, .ref xr, .ref xc])), (h1, .inl (cJ, 64, .inr (.inl f)))]) hP hD hS hA [1] [0, 2] rfl rfl (by decide) (by decide) (my_cV (As := []) (rest := []) (ci := 7) (wc := [(xo, .inr (7, [.ref h1, .int y]))]) ⟨hx, hb, hml, hown, hts⟩ (cwV 0 hts gX8_tell_X7_begin rfl rfl rfl (by decide +kernel) ⟨Nat.le_of_ble_eq_true rfl, Nat.le_of_ble_eq_true rfl⟩) hN hK hP hD [1] rfl (by decide) rfl 1 rfl rfl rfl rfl hl.1 rfl (Nat.le_of_ble_eq_true rfl) dX8_tell_4 ⟨Nat.le_of_ble_eq_true rfl, Nat.le_of_ble_eq_true rfl⟩  ((k_X7_begin l D cI cJ xo h1 y) _)) (fun u H locs hp hP hD hS => ?_)
  obtain rfl := hp
  have hP : va_P D vwCl [(x0, .inr (8, [.ref xn, .int z, .ref xl, .ref xt, .ref xo, .ref xf, .ref xs, .ref xp, .ref xq, .ref xr, .ref xc])), (h1, .inl (cJ, 64, .inr (.inl f))), (xo, .inr (7, [.ref h1, .int 0]))] H := hP
  have hD : va_D A [(x0, .inr (8, [.ref xn, .int z, .ref xl, .ref xt, .ref xo, .ref xf, .ref xs, .ref xp, .ref xq, .ref xr, .ref xc])), (h1, .inl (cJ, 64, .inr (.inl f))), (xo, .inr (7, [.ref h1, .int 0]))] := hD
  refine lv_aload_n hx hb dX8_tell_7 rfl (lv_at hl 0 rfl) ?_
  refine va_get (ci := 8) (v := .ref xo) (C := RX8) (T := TX8) (N := 11) hx hb hts hi8 hown hK hP 0 rfl rfl 4 (by decide) fl34 (fun _ h9 => h9) rfl dX8_tell_8 ?_
  refine lv_lload_n hx hb dX8_tell_11 rfl (lv_at hl 1 rfl) ?_
  refine my_goV (wr := [(x0, .inr (8, [.ref xn, .int z, .ref xl, .ref xt, .ref xo, .ref xf, .ref xs, .ref xp, .ref xq, .ref xr, .ref xc]))]) hP hD hS hA [2, 1] [0] rfl rfl (by decide) (by decide) (my_cV (As := [.long v]) (rest := []) (ci := 7) (wc := [(xo, .inr (7, [.ref h1, .int 0])), (h1, .inl (cJ, 64, .inr (.inl f)))]) ⟨hx, hb, hml, hown, hts⟩ (cwV 1 hts gX8_tell_X7_add rfl rfl rfl (by decide +kernel) ⟨Nat.le_of_ble_eq_true rfl, Nat.le_of_ble_eq_true rfl⟩) hN hK hP hD [2, 1] rfl (by decide) rfl 2 rfl rfl rfl rfl hl.1 rfl (Nat.le_of_ble_eq_true rfl) dX8_tell_12 ⟨Nat.le_of_ble_eq_true rfl, Nat.le_of_ble_eq_true rfl⟩  ((k_X7_add l D cI cJ xo h1 0 f v (by first | omega | decide +kernel)) _)) (fun u H locs hp hP hD hS => ?_)
  obtain ⟨k_1, f_2, rfl, ha_3, hb_4⟩ := hp
  have hP : va_P D vwCl [(x0, .inr (8, [.ref xn, .int z, .ref xl, .ref xt, .ref xo, .ref xf, .ref xs, .ref xp, .ref xq, .ref xr, .ref xc])), (xo, .inr (7, [.ref h1, .int (nI k_1)])), (h1, .inl (cJ, 64, .inr (.inl f_2)))] H := hP
  have hD : va_D A [(x0, .inr (8, [.ref xn, .int z, .ref xl, .ref xt, .ref xo, .ref xf, .ref xs, .ref xp, .ref xq, .ref xr, .ref xc])), (xo, .inr (7, [.ref h1, .int (nI k_1)])), (h1, .inl (cJ, 64, .inr (.inl f_2)))] := hD
  exact my_retV hx hb hr hlocks hK hS [(x0, .inr (8, [.ref xn, .int z, .ref xl, .ref xt, .ref xo, .ref xf, .ref xs, .ref xp, .ref xq, .ref xr, .ref xc])), (xo, .inr (7, [.ref h1, .int (nI k_1)])), (h1, .inl (cJ, 64, .inr (.inl f_2)))] (hP.sub [0, 1, 2] rfl) (hD.sub [0, 1, 2] (by decide) rfl) (⟨k_1, f_2, rfl, (by first | omega | assumption | trivial | decide +kernel)⟩) dX8_tell_15
set_option maxHeartbeats 4000000 in
set_option maxRecDepth 100000 in
theorem k_X8_tell_ (l : Launch) (D : va_G) (cI cJ : ClassId) (x0 : Nat) (xn : Nat) (xl : Nat) (xt : Nat) (xo : Nat) (xf : Nat) (xs : Nat) (xp : Nat) (xq : Nat) (xr : Nat) (xc : Nat) (h1 : Nat) (z : Int32) (y : Int32) (f : Nat → Int64) (v : Int64) (w : Int64) : ctV l yX8_tell_ wsX8_tell_ ({ frames := 1, cells := 0, slots := 0, locals := 60 } : Room) D (tyIJ cI cJ) [.ref x0, .long v, .long w] [(x0, .inr (8, [.ref xn, .int z, .ref xl, .ref xt, .ref xo, .ref xf, .ref xs, .ref xp, .ref xq, .ref xr, .ref xc])), (xo, .inr (7, [.ref h1, .int y])), (h1, .inl (cJ, 64, .inr (.inl f)))] (fun (u : va_W) => ∃ (k' : Nat) (f' : Nat → Int64), u = [(x0, .inr (8, [.ref xn, .int z, .ref xl, .ref xt, .ref xo, .ref xf, .ref xs, .ref xp, .ref xq, .ref xr, .ref xc])), (xo, .inr (7, [.ref h1, .int (nI k')])), (h1, .inl (cJ, 64, .inr (.inl f')))] ∧ k' ≤ 64) := by
  refine ctV.of (cc := cX8_tell_) (maxL := 5) (ret := none) (by decide) rfl (Nat.le_of_ble_eq_true rfl) ?_
  intro p e s m below meth c ls A hx hb hr hts hown hml hlocks hname hA hK hN hP hD hS hl
  have hl : lv_has ls 5 [(0, .ref x0), (1, .long v), (3, .long w)] := hl
  have hown : s.vm.findClass RX8 = some m.cls := hown
  have hi8 : ∀ w ∈ u_ws RX8 TX8 11, w ∈ wsX8_tell_ := by decide +kernel
  have fl34 := hts (.fieldLink RX8 34 "PlaneColumn" "told" "LPlaneColumn$Told;") (by decide +kernel)
  refine lv_aload_n hx hb dX8_tell__0 rfl (lv_at hl 0 rfl) ?_
  refine va_get (ci := 8) (v := .ref xo) (C := RX8) (T := TX8) (N := 11) hx hb hts hi8 hown hK hP 0 rfl rfl 4 (by decide) fl34 (fun _ h9 => h9) rfl dX8_tell__1 ?_
  refine my_goV (wr := [(x0, .inr (8, [.ref xn, .int z, .ref xl, .ref xt, .ref xo, .ref xf, .ref xs, .ref xp, .ref xq, .ref xr, .ref xc])), (h1, .inl (cJ, 64, .inr (.inl f)))]) hP hD hS hA [1] [0, 2] rfl rfl (by decide) (by decide) (my_cV (As := []) (rest := []) (ci := 7) (wc := [(xo, .inr (7, [.ref h1, .int y]))]) ⟨hx, hb, hml, hown, hts⟩ (cwV 0 hts gX8_tell__X7_begin rfl rfl rfl (by decide +kernel) ⟨Nat.le_of_ble_eq_true rfl, Nat.le_of_ble_eq_true rfl⟩) hN hK hP hD [1] rfl (by decide) rfl 1 rfl rfl rfl rfl hl.1 rfl (Nat.le_of_ble_eq_true rfl) dX8_tell__4 ⟨Nat.le_of_ble_eq_true rfl, Nat.le_of_ble_eq_true rfl⟩  ((k_X7_begin l D cI cJ xo h1 y) _)) (fun u H locs hp hP hD hS => ?_)
  obtain rfl := hp
  have hP : va_P D vwCl [(x0, .inr (8, [.ref xn, .int z, .ref xl, .ref xt, .ref xo, .ref xf, .ref xs, .ref xp, .ref xq, .ref xr, .ref xc])), (h1, .inl (cJ, 64, .inr (.inl f))), (xo, .inr (7, [.ref h1, .int 0]))] H := hP
  have hD : va_D A [(x0, .inr (8, [.ref xn, .int z, .ref xl, .ref xt, .ref xo, .ref xf, .ref xs, .ref xp, .ref xq, .ref xr, .ref xc])), (h1, .inl (cJ, 64, .inr (.inl f))), (xo, .inr (7, [.ref h1, .int 0]))] := hD
  refine lv_aload_n hx hb dX8_tell__7 rfl (lv_at hl 0 rfl) ?_
  refine va_get (ci := 8) (v := .ref xo) (C := RX8) (T := TX8) (N := 11) hx hb hts hi8 hown hK hP 0 rfl rfl 4 (by decide) fl34 (fun _ h9 => h9) rfl dX8_tell__8 ?_
  refine lv_lload_n hx hb dX8_tell__11 rfl (lv_at hl 1 rfl) ?_
  refine my_goV (wr := [(x0, .inr (8, [.ref xn, .int z, .ref xl, .ref xt, .ref xo, .ref xf, .ref xs, .ref xp, .ref xq, .ref xr, .ref xc]))]) hP hD hS hA [2, 1] [0] rfl rfl (by decide) (by decide) (my_cV (As := [.long v]) (rest := []) (ci := 7) (wc := [(xo, .inr (7, [.ref h1, .int 0])), (h1, .inl (cJ, 64, .inr (.inl f)))]) ⟨hx, hb, hml, hown, hts⟩ (cwV 1 hts gX8_tell__X7_add rfl rfl rfl (by decide +kernel) ⟨Nat.le_of_ble_eq_true rfl, Nat.le_of_ble_eq_true rfl⟩) hN hK hP hD [2, 1] rfl (by decide) rfl 2 rfl rfl rfl rfl hl.1 rfl (Nat.le_of_ble_eq_true rfl) dX8_tell__12 ⟨Nat.le_of_ble_eq_true rfl, Nat.le_of_ble_eq_true rfl⟩  ((k_X7_add l D cI cJ xo h1 0 f v (by first | omega | decide +kernel)) _)) (fun u H locs hp hP hD hS => ?_)
  obtain ⟨k_1, f_2, rfl, ha_3, hb_4⟩ := hp
  have hP : va_P D vwCl [(x0, .inr (8, [.ref xn, .int z, .ref xl, .ref xt, .ref xo, .ref xf, .ref xs, .ref xp, .ref xq, .ref xr, .ref xc])), (xo, .inr (7, [.ref h1, .int (nI k_1)])), (h1, .inl (cJ, 64, .inr (.inl f_2)))] H := hP
  have hD : va_D A [(x0, .inr (8, [.ref xn, .int z, .ref xl, .ref xt, .ref xo, .ref xf, .ref xs, .ref xp, .ref xq, .ref xr, .ref xc])), (xo, .inr (7, [.ref h1, .int (nI k_1)])), (h1, .inl (cJ, 64, .inr (.inl f_2)))] := hD
  refine lv_aload_n hx hb dX8_tell__15 rfl (lv_at hl 0 rfl) ?_
  refine va_get (ci := 8) (v := .ref xo) (C := RX8) (T := TX8) (N := 11) hx hb hts hi8 hown hK hP 0 rfl rfl 4 (by decide) fl34 (fun _ h9 => h9) rfl dX8_tell__16 ?_
  refine lv_lload_n hx hb dX8_tell__19 rfl (lv_at hl 2 rfl) ?_
  refine my_goV (wr := [(x0, .inr (8, [.ref xn, .int z, .ref xl, .ref xt, .ref xo, .ref xf, .ref xs, .ref xp, .ref xq, .ref xr, .ref xc]))]) hP hD hS hA [1, 2] [0] rfl rfl (by decide) (by decide) (my_cV (As := [.long w]) (rest := []) (ci := 7) (wc := [(xo, .inr (7, [.ref h1, .int (nI k_1)])), (h1, .inl (cJ, 64, .inr (.inl f_2)))]) ⟨hx, hb, hml, hown, hts⟩ (cwV 1 hts gX8_tell__X7_add rfl rfl rfl (by decide +kernel) ⟨Nat.le_of_ble_eq_true rfl, Nat.le_of_ble_eq_true rfl⟩) hN hK hP hD [1, 2] rfl (by decide) rfl 1 rfl rfl rfl rfl hl.1 rfl (Nat.le_of_ble_eq_true rfl) dX8_tell__20 ⟨Nat.le_of_ble_eq_true rfl, Nat.le_of_ble_eq_true rfl⟩  ((k_X7_add l D cI cJ xo h1 k_1 f_2 w (by first | omega | decide +kernel)) _)) (fun u H locs hp hP hD hS => ?_)
  obtain ⟨k_5, f_6, rfl, ha_7, hb_8⟩ := hp
  have hP : va_P D vwCl [(x0, .inr (8, [.ref xn, .int z, .ref xl, .ref xt, .ref xo, .ref xf, .ref xs, .ref xp, .ref xq, .ref xr, .ref xc])), (xo, .inr (7, [.ref h1, .int (nI k_5)])), (h1, .inl (cJ, 64, .inr (.inl f_6)))] H := hP
  have hD : va_D A [(x0, .inr (8, [.ref xn, .int z, .ref xl, .ref xt, .ref xo, .ref xf, .ref xs, .ref xp, .ref xq, .ref xr, .ref xc])), (xo, .inr (7, [.ref h1, .int (nI k_5)])), (h1, .inl (cJ, 64, .inr (.inl f_6)))] := hD
  exact my_retV hx hb hr hlocks hK hS [(x0, .inr (8, [.ref xn, .int z, .ref xl, .ref xt, .ref xo, .ref xf, .ref xs, .ref xp, .ref xq, .ref xr, .ref xc])), (xo, .inr (7, [.ref h1, .int (nI k_5)])), (h1, .inl (cJ, 64, .inr (.inl f_6)))] (hP.sub [0, 1, 2] rfl) (hD.sub [0, 1, 2] (by decide) rfl) (⟨k_5, f_6, rfl, (by first | omega | assumption | trivial | decide +kernel)⟩) dX8_tell__23
