set_option maxHeartbeats 4000000 in
set_option maxRecDepth 100000 in
theorem k_X8_isNumber (l : Launch) (D : va_G) (cI cJ cK : ClassId) (v9 : Int32) : cpI l yX8_isNumber wsX8_isNumber ({ frames := 0, cells := 0, slots := 0, locals := 0 } : Room) D (tyIJ cI cJ cK) [.int v9] [] (fun (r : Int32) => (∃ (k : Nat), r = 1 ∧ v9 = nI k ∧ k ≤ 255) ∨ (r = 0 ∧ (v9.toInt < 0 ∨ 255 < v9.toInt))) := by
  refine cpI.of (cc := cX8_isNumber) (maxL := 1) (ret := (some .boolean)) (by decide) rfl (Nat.le_of_ble_eq_true rfl) ?_
  intro p e s m below meth c ls hx hb hr hts hown hml hlocks hname hK hN hP hl
  have hl : lv_has ls 1 [(0, .int v9)] := hl
  have hown : s.vm.findClass RX8 = some m.cls := hown
  refine lv_iload_n hx hb dX8_isNumber_0 rfl (lv_at hl 0 rfl) ?_
  refine lv_if_lt (tgt := 15) hx hb dX8_isNumber_1 (by decide) (fun c1 => ?_) (fun c1 => ?_)
  ·
    have d1 : v9.toInt < (0 : Int) := my_lt c1 rfl (by decide +kernel)
    refine lv_iconst (v := 0) hx hb dX8_isNumber_15 (by decide +kernel) ?_
    exact my_rpZ hx hb hr hlocks (by decide +kernel) (Or.inr (⟨rfl, (by first | assumption | omega | trivial | decide +kernel)⟩)) dX8_isNumber_16
  ·
    have d1 : v9.toInt ≥ (0 : Int) := my_nlt c1 rfl (by decide +kernel)
    refine lv_iload_n hx hb dX8_isNumber_4 rfl (lv_at hl 0 rfl) ?_
    refine lv_sipush (v := 255) hx hb dX8_isNumber_5 (by decide +kernel) ?_
    refine lv_icmp_gt (tgt := 15) hx hb dX8_isNumber_8 (by decide) (fun c8 => ?_) (fun c8 => ?_)
    ·
      have d8 : v9.toInt > (255 : Int) := my_gt c8 rfl (by decide +kernel)
      refine lv_iconst (v := 0) hx hb dX8_isNumber_15 (by decide +kernel) ?_
      exact my_rpZ hx hb hr hlocks (by decide +kernel) (Or.inr (⟨rfl, (by first | assumption | omega | trivial | decide +kernel)⟩)) dX8_isNumber_16
    ·
      have d8 : v9.toInt ≤ (255 : Int) := my_ngt c8 rfl (by decide +kernel)
      refine lv_iconst (v := 1) hx hb dX8_isNumber_11 (by decide +kernel) ?_
      refine lv_goto (tgt := 16) hx hb dX8_isNumber_12 (by decide) ?_
      exact my_rpZ hx hb hr hlocks (by decide +kernel) (Or.inl ⟨v9.toInt.toNat, rfl, (my_nat (by omega)), (by first | assumption | omega | trivial | decide +kernel)⟩) dX8_isNumber_16
set_option maxHeartbeats 4000000 in
set_option maxRecDepth 100000 in
theorem k_X8_isTimes (l : Launch) (D : va_G) (cI cJ cK : ClassId) (v9 : Int32) : cpI l yX8_isTimes wsX8_isTimes ({ frames := 0, cells := 0, slots := 0, locals := 0 } : Room) D (tyIJ cI cJ cK) [.int v9] [] (fun (r : Int32) => (∃ (k : Nat), r = 1 ∧ v9 = nI k ∧ 1 ≤ k ∧ k ≤ 64) ∨ (r = 0 ∧ (v9.toInt < 1 ∨ 64 < v9.toInt))) := by
  refine cpI.of (cc := cX8_isTimes) (maxL := 1) (ret := (some .boolean)) (by decide) rfl (Nat.le_of_ble_eq_true rfl) ?_
  intro p e s m below meth c ls hx hb hr hts hown hml hlocks hname hK hN hP hl
  have hl : lv_has ls 1 [(0, .int v9)] := hl
  have hown : s.vm.findClass RX8 = some m.cls := hown
  refine lv_iload_n hx hb dX8_isTimes_0 rfl (lv_at hl 0 rfl) ?_
  refine lv_iconst (v := 1) hx hb dX8_isTimes_1 (by decide +kernel) ?_
  refine lv_icmp_lt (tgt := 15) hx hb dX8_isTimes_2 (by decide) (fun c2 => ?_) (fun c2 => ?_)
  ·
    have d2 : v9.toInt < (1 : Int) := my_lt c2 rfl (by decide +kernel)
    refine lv_iconst (v := 0) hx hb dX8_isTimes_15 (by decide +kernel) ?_
    exact my_rpZ hx hb hr hlocks (by decide +kernel) (Or.inr (⟨rfl, (by first | assumption | omega | trivial | decide +kernel)⟩)) dX8_isTimes_16
  ·
    have d2 : v9.toInt ≥ (1 : Int) := my_nlt c2 rfl (by decide +kernel)
    refine lv_iload_n hx hb dX8_isTimes_5 rfl (lv_at hl 0 rfl) ?_
    refine lv_bipush (v := 64) hx hb dX8_isTimes_6 (by decide +kernel) ?_
    refine lv_icmp_gt (tgt := 15) hx hb dX8_isTimes_8 (by decide) (fun c8 => ?_) (fun c8 => ?_)
    ·
      have d8 : v9.toInt > (64 : Int) := my_gt c8 rfl (by decide +kernel)
      refine lv_iconst (v := 0) hx hb dX8_isTimes_15 (by decide +kernel) ?_
      exact my_rpZ hx hb hr hlocks (by decide +kernel) (Or.inr (⟨rfl, (by first | assumption | omega | trivial | decide +kernel)⟩)) dX8_isTimes_16
    ·
      have d8 : v9.toInt ≤ (64 : Int) := my_ngt c8 rfl (by decide +kernel)
      refine lv_iconst (v := 1) hx hb dX8_isTimes_11 (by decide +kernel) ?_
      refine lv_goto (tgt := 16) hx hb dX8_isTimes_12 (by decide) ?_
      exact my_rpZ hx hb hr hlocks (by decide +kernel) (Or.inl ⟨v9.toInt.toNat, rfl, (my_nat (by omega)), (by first | assumption | omega | trivial | decide +kernel), (by first | assumption | omega | trivial | decide +kernel)⟩) dX8_isTimes_16
set_option maxHeartbeats 4000000 in
set_option maxRecDepth 100000 in
theorem k_X8_isPlace (l : Launch) (D : va_G) (cI cJ cK : ClassId) (x0 : Nat) (xn : Nat) (xl : Nat) (xt : Nat) (xo : Nat) (xf : Nat) (xs : Nat) (xp : Nat) (xq : Nat) (xr : Nat) (xc : Nat) (z : Nat) (p9 : Int32) (hz_z : z ≤ 64) : cpI l yX8_isPlace wsX8_isPlace ({ frames := 0, cells := 0, slots := 0, locals := 0 } : Room) D (tyIJ cI cJ cK) [.ref x0, .int p9] [(x0, .inr (8, [.ref xn, .int (nI z), .ref xl, .ref xt, .ref xo, .ref xf, .ref xs, .ref xp, .ref xq, .ref xr, .ref xc]))] (fun (r : Int32) => (∃ (k : Nat), r = 1 ∧ p9 = nI k ∧ k < z) ∨ (r = 0 ∧ (p9.toInt < 0 ∨ z ≤ p9.toInt))) := by
  refine cpI.of (cc := cX8_isPlace) (maxL := 2) (ret := (some .boolean)) (by decide) rfl (Nat.le_of_ble_eq_true rfl) ?_
  intro p e s m below meth c ls hx hb hr hts hown hml hlocks hname hK hN hP hl
  have hl : lv_has ls 2 [(0, .ref x0), (1, .int p9)] := hl
  have hown : s.vm.findClass RX8 = some m.cls := hown
  have hi8 : ∀ w ∈ u_ws RX8 TX8 11, w ∈ wsX8_isPlace := by decide +kernel
  have fl13 := hts (.fieldLink RX8 13 "PlaneColumn" "size" "I") (by decide +kernel)
  refine lv_iload_n hx hb dX8_isPlace_0 rfl (lv_at hl 1 rfl) ?_
  refine lv_if_lt (tgt := 16) hx hb dX8_isPlace_1 (by decide) (fun c1 => ?_) (fun c1 => ?_)
  ·
    have d1 : p9.toInt < (0 : Int) := my_lt c1 rfl (by decide +kernel)
    refine lv_iconst (v := 0) hx hb dX8_isPlace_16 (by decide +kernel) ?_
    exact my_rpZ hx hb hr hlocks (by decide +kernel) (Or.inr (⟨rfl, (by first | assumption | omega | trivial | decide +kernel)⟩)) dX8_isPlace_17
  ·
    have d1 : p9.toInt ≥ (0 : Int) := my_nlt c1 rfl (by decide +kernel)
    refine lv_iload_n hx hb dX8_isPlace_4 rfl (lv_at hl 1 rfl) ?_
    refine lv_aload_n hx hb dX8_isPlace_5 rfl (lv_at hl 0 rfl) ?_
    refine va_get (ci := 8) (v := .int (nI z)) (C := RX8) (T := TX8) (N := 11) hx hb hts hi8 hown hK hP 0 rfl rfl 1 (by decide) fl13 (fun _ h9 => h9) rfl dX8_isPlace_6 ?_
    refine lv_icmp_ge (tgt := 16) hx hb dX8_isPlace_9 (by decide) (fun c9 => ?_) (fun c9 => ?_)
    ·
      have d9 : p9.toInt ≥ ((z : Nat) : Int) := my_ge c9 rfl (nI_toInt (by omega))
      refine lv_iconst (v := 0) hx hb dX8_isPlace_16 (by decide +kernel) ?_
      exact my_rpZ hx hb hr hlocks (by decide +kernel) (Or.inr (⟨rfl, (by first | assumption | omega | trivial | decide +kernel)⟩)) dX8_isPlace_17
    ·
      have d9 : p9.toInt < ((z : Nat) : Int) := my_nge c9 rfl (nI_toInt (by omega))
      refine lv_iconst (v := 1) hx hb dX8_isPlace_12 (by decide +kernel) ?_
      refine lv_goto (tgt := 17) hx hb dX8_isPlace_13 (by decide) ?_
      exact my_rpZ hx hb hr hlocks (by decide +kernel) (Or.inl ⟨p9.toInt.toNat, rfl, (my_nat (by omega)), (by first | assumption | omega | trivial | decide +kernel)⟩) dX8_isPlace_17
set_option maxHeartbeats 4000000 in
set_option maxRecDepth 100000 in
theorem k_X8_isSpan (l : Launch) (D : va_G) (cI cJ cK : ClassId) (x0 : Nat) (xn : Nat) (xl : Nat) (xt : Nat) (xo : Nat) (xf : Nat) (xs : Nat) (xp : Nat) (xq : Nat) (xr : Nat) (xc : Nat) (z : Nat) (l9 : Int32) (r9 : Int32) (hz_z : z ≤ 64) : cpI l yX8_isSpan wsX8_isSpan ({ frames := 0, cells := 0, slots := 0, locals := 0 } : Room) D (tyIJ cI cJ cK) [.ref x0, .int l9, .int r9] [(x0, .inr (8, [.ref xn, .int (nI z), .ref xl, .ref xt, .ref xo, .ref xf, .ref xs, .ref xp, .ref xq, .ref xr, .ref xc]))] (fun (r : Int32) => (∃ (a : Nat) (b : Nat), r = 1 ∧ l9 = nI a ∧ r9 = nI b ∧ a ≤ b ∧ b ≤ z) ∨ (r = 0 ∧ (l9.toInt < 0 ∨ r9.toInt < l9.toInt ∨ z < r9.toInt))) := by
  refine cpI.of (cc := cX8_isSpan) (maxL := 3) (ret := (some .boolean)) (by decide) rfl (Nat.le_of_ble_eq_true rfl) ?_
  intro p e s m below meth c ls hx hb hr hts hown hml hlocks hname hK hN hP hl
  have hl : lv_has ls 3 [(0, .ref x0), (1, .int l9), (2, .int r9)] := hl
  have hown : s.vm.findClass RX8 = some m.cls := hown
  have hi8 : ∀ w ∈ u_ws RX8 TX8 11, w ∈ wsX8_isSpan := by decide +kernel
  have fl13 := hts (.fieldLink RX8 13 "PlaneColumn" "size" "I") (by decide +kernel)
  refine lv_iload_n hx hb dX8_isSpan_0 rfl (lv_at hl 1 rfl) ?_
  refine lv_if_lt (tgt := 21) hx hb dX8_isSpan_1 (by decide) (fun c1 => ?_) (fun c1 => ?_)
  ·
    have d1 : l9.toInt < (0 : Int) := my_lt c1 rfl (by decide +kernel)
    refine lv_iconst (v := 0) hx hb dX8_isSpan_21 (by decide +kernel) ?_
    exact my_rpZ hx hb hr hlocks (by decide +kernel) (Or.inr (⟨rfl, (by first | assumption | omega | trivial | decide +kernel)⟩)) dX8_isSpan_22
  ·
    have d1 : l9.toInt ≥ (0 : Int) := my_nlt c1 rfl (by decide +kernel)
    refine lv_iload_n hx hb dX8_isSpan_4 rfl (lv_at hl 1 rfl) ?_
    refine lv_iload_n hx hb dX8_isSpan_5 rfl (lv_at hl 2 rfl) ?_
    refine lv_icmp_gt (tgt := 21) hx hb dX8_isSpan_6 (by decide) (fun c6 => ?_) (fun c6 => ?_)
    ·
      have d6 : l9.toInt > r9.toInt := my_gt c6 rfl rfl
      refine lv_iconst (v := 0) hx hb dX8_isSpan_21 (by decide +kernel) ?_
      exact my_rpZ hx hb hr hlocks (by decide +kernel) (Or.inr (⟨rfl, (by first | assumption | omega | trivial | decide +kernel)⟩)) dX8_isSpan_22
    ·
      have d6 : l9.toInt ≤ r9.toInt := my_ngt c6 rfl rfl
      refine lv_iload_n hx hb dX8_isSpan_9 rfl (lv_at hl 2 rfl) ?_
      refine lv_aload_n hx hb dX8_isSpan_10 rfl (lv_at hl 0 rfl) ?_
      refine va_get (ci := 8) (v := .int (nI z)) (C := RX8) (T := TX8) (N := 11) hx hb hts hi8 hown hK hP 0 rfl rfl 1 (by decide) fl13 (fun _ h9 => h9) rfl dX8_isSpan_11 ?_
      refine lv_icmp_gt (tgt := 21) hx hb dX8_isSpan_14 (by decide) (fun c14 => ?_) (fun c14 => ?_)
      ·
        have d14 : r9.toInt > ((z : Nat) : Int) := my_gt c14 rfl (nI_toInt (by omega))
        refine lv_iconst (v := 0) hx hb dX8_isSpan_21 (by decide +kernel) ?_
        exact my_rpZ hx hb hr hlocks (by decide +kernel) (Or.inr (⟨rfl, (by first | assumption | omega | trivial | decide +kernel)⟩)) dX8_isSpan_22
      ·
        have d14 : r9.toInt ≤ ((z : Nat) : Int) := my_ngt c14 rfl (nI_toInt (by omega))
        refine lv_iconst (v := 1) hx hb dX8_isSpan_17 (by decide +kernel) ?_
        refine lv_goto (tgt := 22) hx hb dX8_isSpan_18 (by decide) ?_
        exact my_rpZ hx hb hr hlocks (by decide +kernel) (Or.inl ⟨l9.toInt.toNat, r9.toInt.toNat, rfl, (my_nat (by omega)), (my_nat (by omega)), (by first | assumption | omega | trivial | decide +kernel), (by first | assumption | omega | trivial | decide +kernel)⟩) dX8_isSpan_22
abbrev wl_k_X7_begin (cI cJ cK : ClassId) (xo : Nat) (o1 : Nat) (v0_ : Int32) : va_W := [(xo, .inr (7, [.ref o1, .int v0_]))]
set_option maxHeartbeats 4000000 in
set_option maxRecDepth 100000 in
theorem k_X7_begin (l : Launch) (D : va_G) (cI cJ cK : ClassId) (xo : Nat) (o1 : Nat) (oz : Nat) (hz_oz : oz ≤ 64) : ctV l yX7_begin wsX7_begin ({ frames := 0, cells := 0, slots := 0, locals := 0 } : Room) D (tyIJ cI cJ cK) [.ref xo] (wl_k_X7_begin cI cJ cK xo o1 (nI oz)) (fun (u : va_W) => u = (wl_k_X7_begin cI cJ cK xo o1 0)) := by
  refine ctV.of (cc := cX7_begin) (maxL := 1) (ret := none) (by decide) rfl (Nat.le_of_ble_eq_true rfl) ?_
  intro p e s m below meth c ls A hx hb hr hts hown hml hlocks hname hA hK hN hP hD hS hl
  have hl : lv_has ls 1 [(0, .ref xo)] := hl
  have hown : s.vm.findClass RX7 = some m.cls := hown
  have hi7 : ∀ w ∈ u_ws RX7 TX7 2, w ∈ wsX7_begin := by decide +kernel
  have fl13 := hts (.fieldLink RX7 13 "PlaneColumn$Told" "size" "I") (by decide +kernel)
  refine lv_aload_n hx hb dX7_begin_0 rfl (lv_at hl 0 rfl) ?_
  refine lv_iconst (v := 0) hx hb dX7_begin_1 (by decide +kernel) ?_
  refine va_put (ci := 7) (v := .int 0) (ty := (.int)) (C := RX7) (T := TX7) (N := 2) hx hb hts hi7 tyX7 tyX7_ok nmX7 hown hK hP hD hS 0 rfl rfl 1 (by decide) fl13 (fun _ h9 => h9) rfl (by decide +kernel) rfl rfl (Nat.le_of_ble_eq_true rfl) dX7_begin_2 (fun H locs hP hD hS => ?_)
  have hP : va_P D vwCl (wl_k_X7_begin cI cJ cK xo o1 0) H := hP
  have hD : va_D A (wl_k_X7_begin cI cJ cK xo o1 0) := hD
  exact my_retV hx hb hr hlocks hK hS (wl_k_X7_begin cI cJ cK xo o1 0) hP hD (rfl) dX7_begin_5
abbrev wl_kf_X7_add (cI cJ cK : ClassId) (xo : Nat) (o1 : Nat) (v0_ : Int32) (v1_ : Nat → Int64) : va_W := [(xo, .inr (7, [.ref o1, .int v0_])), (o1, .inl (cJ, 64, .inr (.inl v1_)))]
set_option maxHeartbeats 4000000 in
set_option maxRecDepth 100000 in
theorem kf_X7_add (l : Launch) (D : va_G) (cI cJ cK : ClassId) (xo : Nat) (o1 : Nat) (oz : Nat) (of : Nat → Int64) (v9 : Int64) (hz_oz : oz ≤ 64) (ho9 : oz < 64) : ctV l yX7_add wsX7_add ({ frames := 0, cells := 0, slots := 0, locals := 0 } : Room) D (tyIJ cI cJ cK) [.ref xo, .long v9] (wl_kf_X7_add cI cJ cK xo o1 (nI oz) of) (fun (u : va_W) => ∃ (of' : Nat → Int64), u = (wl_kf_X7_add cI cJ cK xo o1 (nI (oz + 1)) of') ∧ of' = vp_updL of oz v9 ∧ True) := by
  refine ctV.of (cc := cX7_add) (maxL := 3) (ret := none) (by decide) rfl (Nat.le_of_ble_eq_true rfl) ?_
  intro p e s m below meth c ls A hx hb hr hts hown hml hlocks hname hA hK hN hP hD hS hl
  have hl : lv_has ls 3 [(0, .ref xo), (1, .long v9)] := hl
  have hown : s.vm.findClass RX7 = some m.cls := hown
  have hi7 : ∀ w ∈ u_ws RX7 TX7 2, w ∈ wsX7_add := by decide +kernel
  have fl13 := hts (.fieldLink RX7 13 "PlaneColumn$Told" "size" "I") (by decide +kernel)
  have fl7 := hts (.fieldLink RX7 7 "PlaneColumn$Told" "values" "[J") (by decide +kernel)
  refine lv_aload_n hx hb dX7_add_0 rfl (lv_at hl 0 rfl) ?_
  refine va_get (ci := 7) (v := .int (nI oz)) (C := RX7) (T := TX7) (N := 2) hx hb hts hi7 hown hK hP 0 rfl rfl 1 (by decide) fl13 (fun _ h9 => h9) rfl dX7_add_1 ?_
  refine lv_aload_n hx hb dX7_add_4 rfl (lv_at hl 0 rfl) ?_
  refine va_get (ci := 7) (v := .ref o1) (C := RX7) (T := TX7) (N := 2) hx hb hts hi7 hown hK hP 0 rfl rfl 0 (by decide) fl7 (fun _ h9 => h9) rfl dX7_add_5 ?_
  refine va_alen (v := 64) hx hb hK hP 1 1 rfl rfl rfl dX7_add_8 ?_
  refine lv_icmp_ge (tgt := 32) hx hb dX7_add_9 (by decide) (fun c9 => ?_) (fun c9 => ?_)
  ·
    have d9 : ((oz : Nat) : Int) ≥ (64 : Int) := my_ge c9 (nI_toInt (by omega)) (by decide +kernel)
    exact absurd d9 (by omega)
  ·
    have d9 : ((oz : Nat) : Int) < (64 : Int) := my_nge c9 (nI_toInt (by omega)) (by decide +kernel)
    refine lv_aload_n hx hb dX7_add_12 rfl (lv_at hl 0 rfl) ?_
    refine va_get (ci := 7) (v := .ref o1) (C := RX7) (T := TX7) (N := 2) hx hb hts hi7 hown hK hP 0 rfl rfl 0 (by decide) fl7 (fun _ h9 => h9) rfl dX7_add_13 ?_
    refine lv_aload_n hx hb dX7_add_16 rfl (lv_at hl 0 rfl) ?_
    refine va_get (ci := 7) (v := .int (nI oz)) (C := RX7) (T := TX7) (N := 2) hx hb hts hi7 hown hK hP 0 rfl rfl 1 (by decide) fl13 (fun _ h9 => h9) rfl dX7_add_17 ?_
    refine lv_lload_n hx hb dX7_add_20 rfl (lv_at hl 1 rfl) ?_
    refine va_last hx hb hK hP hD hS 1 1 rfl rfl (vp_in_nI (by omega) (by omega)) dX7_add_21 (fun H locs hP hD hS => ?_)
    obtain ⟨g_1, eg_1⟩ : ∃ g : Nat → Int64, g = vp_updL of oz v9 := ⟨_, rfl⟩
    have eU : vp_updL of (nI oz : Int32).toNatClampNeg v9 = g_1 := by rw [eg_1, show (nI oz : Int32).toNatClampNeg = oz from nI_clamp (by omega)]
    rw [eU] at hP hD
    have hP : va_P D vwCl (wl_kf_X7_add cI cJ cK xo o1 (nI oz) g_1) H := hP
    have hD : va_D A (wl_kf_X7_add cI cJ cK xo o1 (nI oz) g_1) := hD
    refine lv_aload_n hx hb dX7_add_22 rfl (lv_at hl 0 rfl) ?_
    refine lv_dup hx hb dX7_add_23 rfl ?_
    refine va_get (ci := 7) (v := .int (nI oz)) (C := RX7) (T := TX7) (N := 2) hx hb hts hi7 hown hK hP 0 rfl rfl 1 (by decide) fl13 (fun _ h9 => h9) rfl dX7_add_24 ?_
    refine lv_iconst (v := 1) hx hb dX7_add_27 (by decide +kernel) ?_
    refine lv_iadd hx hb dX7_add_28 ?_
    refine my_eqi (y := nI (oz + 1)) (my_addN oz 1) ?_
    refine va_put (ci := 7) (v := .int (nI (oz + 1))) (ty := (.int)) (C := RX7) (T := TX7) (N := 2) hx hb hts hi7 tyX7 tyX7_ok nmX7 hown hK hP hD hS 0 rfl rfl 1 (by decide) fl13 (fun _ h9 => h9) rfl (by decide +kernel) rfl rfl (Nat.le_of_ble_eq_true rfl) dX7_add_29 (fun H locs hP hD hS => ?_)
    have hP : va_P D vwCl (wl_kf_X7_add cI cJ cK xo o1 (nI (oz + 1)) g_1) H := hP
    have hD : va_D A (wl_kf_X7_add cI cJ cK xo o1 (nI (oz + 1)) g_1) := hD
    exact my_retV hx hb hr hlocks hK hS (wl_kf_X7_add cI cJ cK xo o1 (nI (oz + 1)) g_1) hP hD (⟨g_1, rfl, (by assumption), (by first | assumption | omega | trivial | decide +kernel)⟩) dX7_add_32
abbrev wl_k_X8_tell (cI cJ cK : ClassId) (x0 : Nat) (xn : Nat) (xl : Nat) (xt : Nat) (xo : Nat) (xf : Nat) (xs : Nat) (xp : Nat) (xq : Nat) (xr : Nat) (xc : Nat) (o1 : Nat) (v0_ : Int32) (v1_ : Int32) (v2_ : Nat → Int64) : va_W := [(x0, .inr (8, [.ref xn, .int v0_, .ref xl, .ref xt, .ref xo, .ref xf, .ref xs, .ref xp, .ref xq, .ref xr, .ref xc])), (xo, .inr (7, [.ref o1, .int v1_])), (o1, .inl (cJ, 64, .inr (.inl v2_)))]
set_option maxHeartbeats 4000000 in
set_option maxRecDepth 100000 in
theorem k_X8_tell (l : Launch) (D : va_G) (cI cJ cK : ClassId) (x0 : Nat) (xn : Nat) (xl : Nat) (xt : Nat) (xo : Nat) (xf : Nat) (xs : Nat) (xp : Nat) (xq : Nat) (xr : Nat) (xc : Nat) (o1 : Nat) (z : Nat) (oz : Nat) (of : Nat → Int64) (v9 : Int64) (hz_z : z ≤ 64) (hz_oz : oz ≤ 64) : ctV l yX8_tell wsX8_tell ({ frames := 1, cells := 0, slots := 0, locals := 60 } : Room) D (tyIJ cI cJ cK) [.ref x0, .long v9] (wl_k_X8_tell cI cJ cK x0 xn xl xt xo xf xs xp xq xr xc o1 (nI z) (nI oz) of) (fun (u : va_W) => ∃ (of' : Nat → Int64), u = (wl_k_X8_tell cI cJ cK x0 xn xl xt xo xf xs xp xq xr xc o1 (nI z) 1 of') ∧ of' 0 = v9 ∧ True) := by
  refine ctV.of (cc := cX8_tell) (maxL := 3) (ret := none) (by decide) rfl (Nat.le_of_ble_eq_true rfl) ?_
  intro p e s m below meth c ls A hx hb hr hts hown hml hlocks hname hA hK hN hP hD hS hl
  have hl : lv_has ls 3 [(0, .ref x0), (1, .long v9)] := hl
  have hown : s.vm.findClass RX8 = some m.cls := hown
  have hi8 : ∀ w ∈ u_ws RX8 TX8 11, w ∈ wsX8_tell := by decide +kernel
  have fl34 := hts (.fieldLink RX8 34 "PlaneColumn" "told" "LPlaneColumn$Told;") (by decide +kernel)
  refine lv_aload_n hx hb dX8_tell_0 rfl (lv_at hl 0 rfl) ?_
  refine va_get (ci := 8) (v := .ref xo) (C := RX8) (T := TX8) (N := 11) hx hb hts hi8 hown hK hP 0 rfl rfl 4 (by decide) fl34 (fun _ h9 => h9) rfl dX8_tell_1 ?_
  refine my_goVS (wc := (wl_k_X7_begin cI cJ cK xo o1 (nI oz))) hP hD hS hA [1] rfl [none, some 0] (by decide +kernel) (my_cV (As := []) (rest := []) (ci := 7) (wc := (wl_k_X7_begin cI cJ cK xo o1 (nI oz))) ⟨hx, hb, hml, hown, hts⟩ (cwV 0 hts gX8_tell_X7_begin rfl rfl rfl (by decide +kernel) ⟨Nat.le_of_ble_eq_true rfl, Nat.le_of_ble_eq_true rfl⟩) hN hK hP hD [1] rfl (by decide) rfl 1 rfl rfl rfl rfl hl.1 rfl (Nat.le_of_ble_eq_true rfl) dX8_tell_4 ⟨Nat.le_of_ble_eq_true rfl, Nat.le_of_ble_eq_true rfl⟩  ((k_X7_begin l D cI cJ cK xo o1 oz (by first | assumption | omega | decide +kernel)) _)) (fun u H locs hp hPD hS => ?_)
  obtain rfl := hp
  obtain ⟨hP, hD⟩ := hPD rfl
  have hP : va_P D vwCl (wl_k_X8_tell cI cJ cK x0 xn xl xt xo xf xs xp xq xr xc o1 (nI z) 0 of) H := hP
  have hD : va_D A (wl_k_X8_tell cI cJ cK x0 xn xl xt xo xf xs xp xq xr xc o1 (nI z) 0 of) := hD
  refine lv_aload_n hx hb dX8_tell_7 rfl (lv_at hl 0 rfl) ?_
  refine va_get (ci := 8) (v := .ref xo) (C := RX8) (T := TX8) (N := 11) hx hb hts hi8 hown hK hP 0 rfl rfl 4 (by decide) fl34 (fun _ h9 => h9) rfl dX8_tell_8 ?_
  refine lv_lload_n hx hb dX8_tell_11 rfl (lv_at hl 1 rfl) ?_
  refine my_goVS (wc := (wl_kf_X7_add cI cJ cK xo o1 0 of)) hP hD hS hA [1, 2] rfl [none, some 0, some 1] (by decide +kernel) (my_cV (As := [.long v9]) (rest := []) (ci := 7) (wc := (wl_kf_X7_add cI cJ cK xo o1 0 of)) ⟨hx, hb, hml, hown, hts⟩ (cwV 1 hts gX8_tell_X7_add rfl rfl rfl (by decide +kernel) ⟨Nat.le_of_ble_eq_true rfl, Nat.le_of_ble_eq_true rfl⟩) hN hK hP hD [1, 2] rfl (by decide) rfl 1 rfl rfl rfl rfl hl.1 rfl (Nat.le_of_ble_eq_true rfl) dX8_tell_12 ⟨Nat.le_of_ble_eq_true rfl, Nat.le_of_ble_eq_true rfl⟩  ((kf_X7_add l D cI cJ cK xo o1 0 of v9 (by first | assumption | omega | decide +kernel) (by first | assumption | omega | decide +kernel)) _)) (fun u H locs hp hPD hS => ?_)
  obtain ⟨of_1, rfl, hof, ht_2⟩ := hp
  obtain ⟨hP, hD⟩ := hPD rfl
  have hP : va_P D vwCl (wl_k_X8_tell cI cJ cK x0 xn xl xt xo xf xs xp xq xr xc o1 (nI z) 1 of_1) H := hP
  have hD : va_D A (wl_k_X8_tell cI cJ cK x0 xn xl xt xo xf xs xp xq xr xc o1 (nI z) 1 of_1) := hD
  exact my_retV hx hb hr hlocks hK hS (wl_k_X8_tell cI cJ cK x0 xn xl xt xo xf xs xp xq xr xc o1 (nI z) 1 of_1) hP hD (⟨of_1, rfl, (updL_s hof), (by first | assumption | omega | trivial | decide +kernel)⟩) dX8_tell_15
abbrev wl_k_X8_tell_ (cI cJ cK : ClassId) (x0 : Nat) (xn : Nat) (xl : Nat) (xt : Nat) (xo : Nat) (xf : Nat) (xs : Nat) (xp : Nat) (xq : Nat) (xr : Nat) (xc : Nat) (o1 : Nat) (v0_ : Int32) (v1_ : Int32) (v2_ : Nat → Int64) : va_W := [(x0, .inr (8, [.ref xn, .int v0_, .ref xl, .ref xt, .ref xo, .ref xf, .ref xs, .ref xp, .ref xq, .ref xr, .ref xc])), (xo, .inr (7, [.ref o1, .int v1_])), (o1, .inl (cJ, 64, .inr (.inl v2_)))]
set_option maxHeartbeats 4000000 in
set_option maxRecDepth 100000 in
theorem k_X8_tell_ (l : Launch) (D : va_G) (cI cJ cK : ClassId) (x0 : Nat) (xn : Nat) (xl : Nat) (xt : Nat) (xo : Nat) (xf : Nat) (xs : Nat) (xp : Nat) (xq : Nat) (xr : Nat) (xc : Nat) (o1 : Nat) (z : Nat) (oz : Nat) (of : Nat → Int64) (v9 : Int64) (u9 : Int64) (hz_z : z ≤ 64) (hz_oz : oz ≤ 64) : ctV l yX8_tell_ wsX8_tell_ ({ frames := 1, cells := 0, slots := 0, locals := 60 } : Room) D (tyIJ cI cJ cK) [.ref x0, .long v9, .long u9] (wl_k_X8_tell_ cI cJ cK x0 xn xl xt xo xf xs xp xq xr xc o1 (nI z) (nI oz) of) (fun (u : va_W) => ∃ (of' : Nat → Int64), u = (wl_k_X8_tell_ cI cJ cK x0 xn xl xt xo xf xs xp xq xr xc o1 (nI z) 2 of') ∧ of' 0 = v9 ∧ of' 1 = u9) := by
  refine ctV.of (cc := cX8_tell_) (maxL := 5) (ret := none) (by decide) rfl (Nat.le_of_ble_eq_true rfl) ?_
  intro p e s m below meth c ls A hx hb hr hts hown hml hlocks hname hA hK hN hP hD hS hl
  have hl : lv_has ls 5 [(0, .ref x0), (1, .long v9), (3, .long u9)] := hl
  have hown : s.vm.findClass RX8 = some m.cls := hown
  have hi8 : ∀ w ∈ u_ws RX8 TX8 11, w ∈ wsX8_tell_ := by decide +kernel
  have fl34 := hts (.fieldLink RX8 34 "PlaneColumn" "told" "LPlaneColumn$Told;") (by decide +kernel)
  refine lv_aload_n hx hb dX8_tell__0 rfl (lv_at hl 0 rfl) ?_
  refine va_get (ci := 8) (v := .ref xo) (C := RX8) (T := TX8) (N := 11) hx hb hts hi8 hown hK hP 0 rfl rfl 4 (by decide) fl34 (fun _ h9 => h9) rfl dX8_tell__1 ?_
  refine my_goVS (wc := (wl_k_X7_begin cI cJ cK xo o1 (nI oz))) hP hD hS hA [1] rfl [none, some 0] (by decide +kernel) (my_cV (As := []) (rest := []) (ci := 7) (wc := (wl_k_X7_begin cI cJ cK xo o1 (nI oz))) ⟨hx, hb, hml, hown, hts⟩ (cwV 0 hts gX8_tell__X7_begin rfl rfl rfl (by decide +kernel) ⟨Nat.le_of_ble_eq_true rfl, Nat.le_of_ble_eq_true rfl⟩) hN hK hP hD [1] rfl (by decide) rfl 1 rfl rfl rfl rfl hl.1 rfl (Nat.le_of_ble_eq_true rfl) dX8_tell__4 ⟨Nat.le_of_ble_eq_true rfl, Nat.le_of_ble_eq_true rfl⟩  ((k_X7_begin l D cI cJ cK xo o1 oz (by first | assumption | omega | decide +kernel)) _)) (fun u H locs hp hPD hS => ?_)
  obtain rfl := hp
  obtain ⟨hP, hD⟩ := hPD rfl
  have hP : va_P D vwCl (wl_k_X8_tell_ cI cJ cK x0 xn xl xt xo xf xs xp xq xr xc o1 (nI z) 0 of) H := hP
  have hD : va_D A (wl_k_X8_tell_ cI cJ cK x0 xn xl xt xo xf xs xp xq xr xc o1 (nI z) 0 of) := hD
  refine lv_aload_n hx hb dX8_tell__7 rfl (lv_at hl 0 rfl) ?_
  refine va_get (ci := 8) (v := .ref xo) (C := RX8) (T := TX8) (N := 11) hx hb hts hi8 hown hK hP 0 rfl rfl 4 (by decide) fl34 (fun _ h9 => h9) rfl dX8_tell__8 ?_
  refine lv_lload_n hx hb dX8_tell__11 rfl (lv_at hl 1 rfl) ?_
  refine my_goVS (wc := (wl_kf_X7_add cI cJ cK xo o1 0 of)) hP hD hS hA [1, 2] rfl [none, some 0, some 1] (by decide +kernel) (my_cV (As := [.long v9]) (rest := []) (ci := 7) (wc := (wl_kf_X7_add cI cJ cK xo o1 0 of)) ⟨hx, hb, hml, hown, hts⟩ (cwV 1 hts gX8_tell__X7_add rfl rfl rfl (by decide +kernel) ⟨Nat.le_of_ble_eq_true rfl, Nat.le_of_ble_eq_true rfl⟩) hN hK hP hD [1, 2] rfl (by decide) rfl 1 rfl rfl rfl rfl hl.1 rfl (Nat.le_of_ble_eq_true rfl) dX8_tell__12 ⟨Nat.le_of_ble_eq_true rfl, Nat.le_of_ble_eq_true rfl⟩  ((kf_X7_add l D cI cJ cK xo o1 0 of v9 (by first | assumption | omega | decide +kernel) (by first | assumption | omega | decide +kernel)) _)) (fun u H locs hp hPD hS => ?_)
  obtain ⟨of_1, rfl, hof, ht_2⟩ := hp
  obtain ⟨hP, hD⟩ := hPD rfl
  have hP : va_P D vwCl (wl_k_X8_tell_ cI cJ cK x0 xn xl xt xo xf xs xp xq xr xc o1 (nI z) 1 of_1) H := hP
  have hD : va_D A (wl_k_X8_tell_ cI cJ cK x0 xn xl xt xo xf xs xp xq xr xc o1 (nI z) 1 of_1) := hD
  have hof0 := hof
  refine lv_aload_n hx hb dX8_tell__15 rfl (lv_at hl 0 rfl) ?_
  refine va_get (ci := 8) (v := .ref xo) (C := RX8) (T := TX8) (N := 11) hx hb hts hi8 hown hK hP 0 rfl rfl 4 (by decide) fl34 (fun _ h9 => h9) rfl dX8_tell__16 ?_
  refine lv_lload_n hx hb dX8_tell__19 rfl (lv_at hl 2 rfl) ?_
  refine my_goVS (wc := (wl_kf_X7_add cI cJ cK xo o1 1 of_1)) hP hD hS hA [1, 2] rfl [none, some 0, some 1] (by decide +kernel) (my_cV (As := [.long u9]) (rest := []) (ci := 7) (wc := (wl_kf_X7_add cI cJ cK xo o1 1 of_1)) ⟨hx, hb, hml, hown, hts⟩ (cwV 1 hts gX8_tell__X7_add rfl rfl rfl (by decide +kernel) ⟨Nat.le_of_ble_eq_true rfl, Nat.le_of_ble_eq_true rfl⟩) hN hK hP hD [1, 2] rfl (by decide) rfl 1 rfl rfl rfl rfl hl.1 rfl (Nat.le_of_ble_eq_true rfl) dX8_tell__20 ⟨Nat.le_of_ble_eq_true rfl, Nat.le_of_ble_eq_true rfl⟩  ((kf_X7_add l D cI cJ cK xo o1 1 of_1 u9 (by first | assumption | omega | decide +kernel) (by first | assumption | omega | decide +kernel)) _)) (fun u H locs hp hPD hS => ?_)
  obtain ⟨of_3, rfl, hof, ht_4⟩ := hp
  obtain ⟨hP, hD⟩ := hPD rfl
  have hP : va_P D vwCl (wl_k_X8_tell_ cI cJ cK x0 xn xl xt xo xf xs xp xq xr xc o1 (nI z) 2 of_3) H := hP
  have hD : va_D A (wl_k_X8_tell_ cI cJ cK x0 xn xl xt xo xf xs xp xq xr xc o1 (nI z) 2 of_3) := hD
  exact my_retV hx hb hr hlocks hK hS (wl_k_X8_tell_ cI cJ cK x0 xn xl xt xo xf xs xp xq xr xc o1 (nI z) 2 of_3) hP hD (⟨of_3, rfl, ((updL_o hof (by decide)).trans (updL_s hof0)), (updL_s hof)⟩) dX8_tell__23
abbrev wl_k_X5_keep (cI cJ cK : ClassId) (xt : Nat) (t1 : Nat) (v0_ : Int32) : va_W := [(xt, .inr (5, [.ref t1, .int v0_]))]
set_option maxHeartbeats 4000000 in
set_option maxRecDepth 100000 in
theorem k_X5_keep (l : Launch) (D : va_G) (cI cJ cK : ClassId) (xt : Nat) (t1 : Nat) (tz : Nat) (u8 : Int32) (A_u8 : Int) (hA_u8 : u8.toInt = A_u8) (hz_tz : tz ≤ 100) : ctI l yX5_keep wsX5_keep ({ frames := 0, cells := 0, slots := 0, locals := 0 } : Room) D (tyIJ cI cJ cK) [.ref xt, .int u8] (wl_k_X5_keep cI cJ cK xt t1 (nI tz)) (fun (r : Int32) (u : va_W) => (∃ (tz' : Nat), u = (wl_k_X5_keep cI cJ cK xt t1 (nI tz')) ∧ r = 1 ∧ tz' ≤ 100 ∧ (tz' : Int) = A_u8 ∧ A_u8 ≤ tz) ∨ (u = (wl_k_X5_keep cI cJ cK xt t1 (nI tz)) ∧ r = 0 ∧ (A_u8 < 0 ∨ tz < A_u8))) := by
  refine ctI.of (cc := cX5_keep) (maxL := 2) (ret := (some .boolean)) (by decide) rfl (Nat.le_of_ble_eq_true rfl) ?_
  intro p e s m below meth c ls A hx hb hr hts hown hml hlocks hname hA hK hN hP hD hS hl
  have hl : lv_has ls 2 [(0, .ref xt), (1, .int u8)] := hl
  have hown : s.vm.findClass RX5 = some m.cls := hown
  have hi5 : ∀ w ∈ u_ws RX5 TX5 2, w ∈ wsX5_keep := by decide +kernel
  have fl13 := hts (.fieldLink RX5 13 "PlaneColumn$Signs" "size" "I") (by decide +kernel)
  refine lv_iload_n hx hb dX5_keep_0 rfl (lv_at hl 1 rfl) ?_
  refine lv_if_lt (tgt := 12) hx hb dX5_keep_1 (by decide) (fun c1 => ?_) (fun c1 => ?_)
  ·
    have d1 : u8.toInt < (0 : Int) := my_lt c1 rfl (by decide +kernel)
    refine lv_iconst (v := 0) hx hb dX5_keep_12 (by decide +kernel) ?_
    exact my_retZ hx hb hr hlocks (by decide +kernel) hK hS (wl_k_X5_keep cI cJ cK xt t1 (nI tz)) hP hD (Or.inr (⟨rfl, rfl, (by first | assumption | omega | trivial | decide +kernel)⟩)) dX5_keep_13
  ·
    have d1 : u8.toInt ≥ (0 : Int) := my_nlt c1 rfl (by decide +kernel)
    refine lv_iload_n hx hb dX5_keep_4 rfl (lv_at hl 1 rfl) ?_
    refine lv_aload_n hx hb dX5_keep_5 rfl (lv_at hl 0 rfl) ?_
    refine va_get (ci := 5) (v := .int (nI tz)) (C := RX5) (T := TX5) (N := 2) hx hb hts hi5 hown hK hP 0 rfl rfl 1 (by decide) fl13 (fun _ h9 => h9) rfl dX5_keep_6 ?_
    refine lv_icmp_le (tgt := 14) hx hb dX5_keep_9 (by decide) (fun c9 => ?_) (fun c9 => ?_)
    ·
      have d9 : u8.toInt ≤ ((tz : Nat) : Int) := my_le c9 rfl (nI_toInt (by omega))
      refine lv_aload_n hx hb dX5_keep_14 rfl (lv_at hl 0 rfl) ?_
      refine lv_iload_n hx hb dX5_keep_15 rfl (lv_at hl 1 rfl) ?_
      obtain ⟨w_1, ew_1, hw_1⟩ : ∃ w : Nat, u8 = nI w ∧ (w : Int) = (u8 : Int32).toInt := my_natE (by omega)
      refine my_eqi (y := nI w_1) ew_1 ?_
      refine va_put (ci := 5) (v := .int (nI w_1)) (ty := (.int)) (C := RX5) (T := TX5) (N := 2) hx hb hts hi5 tyX5 tyX5_ok nmX5 hown hK hP hD hS 0 rfl rfl 1 (by decide) fl13 (fun _ h9 => h9) rfl (by decide +kernel) rfl rfl (Nat.le_of_ble_eq_true rfl) dX5_keep_16 (fun H locs hP hD hS => ?_)
      have hP : va_P D vwCl (wl_k_X5_keep cI cJ cK xt t1 (nI w_1)) H := hP
      have hD : va_D A (wl_k_X5_keep cI cJ cK xt t1 (nI w_1)) := hD
      refine lv_iconst (v := 1) hx hb dX5_keep_19 (by decide +kernel) ?_
      exact my_retZ hx hb hr hlocks (by decide +kernel) hK hS (wl_k_X5_keep cI cJ cK xt t1 (nI w_1)) hP hD (Or.inl ⟨w_1, rfl, rfl, (by first | assumption | omega | trivial | decide +kernel), (by first | assumption | omega | trivial | decide +kernel), (by first | assumption | omega | trivial | decide +kernel)⟩) dX5_keep_20
    ·
      have d9 : u8.toInt > ((tz : Nat) : Int) := my_nle c9 rfl (nI_toInt (by omega))
      refine lv_iconst (v := 0) hx hb dX5_keep_12 (by decide +kernel) ?_
      exact my_retZ hx hb hr hlocks (by decide +kernel) hK hS (wl_k_X5_keep cI cJ cK xt t1 (nI tz)) hP hD (Or.inr (⟨rfl, rfl, (by first | assumption | omega | trivial | decide +kernel)⟩)) dX5_keep_13
set_option maxHeartbeats 4000000 in
set_option maxRecDepth 100000 in
theorem k_X5_at (l : Launch) (D : va_G) (cI cJ cK : ClassId) (xt : Nat) (t1 : Nat) (tz : Nat) (tf : Nat → Int32) (a : Nat) (hz_tz : tz ≤ 100) (hR_tf : RB 0 255 tf) (ha31 : a < 2147483648) : cpI l yX5_at wsX5_at ({ frames := 0, cells := 0, slots := 0, locals := 0 } : Room) D (tyIJ cI cJ cK) [.ref xt, .int (nI a)] [(xt, .inr (5, [.ref t1, .int (nI tz)])), (t1, .inl (cI, 100, .inl tf))] (fun (r : Int32) => (r = tf a ∧ a < tz) ∨ (r = (-1) ∧ tz ≤ a)) := by
  refine cpI.of (cc := cX5_at) (maxL := 2) (ret := (some .int)) (by decide) rfl (Nat.le_of_ble_eq_true rfl) ?_
  intro p e s m below meth c ls hx hb hr hts hown hml hlocks hname hK hN hP hl
  have hl : lv_has ls 2 [(0, .ref xt), (1, .int (nI a))] := hl
  have hown : s.vm.findClass RX5 = some m.cls := hown
  have hi5 : ∀ w ∈ u_ws RX5 TX5 2, w ∈ wsX5_at := by decide +kernel
  have fl13 := hts (.fieldLink RX5 13 "PlaneColumn$Signs" "size" "I") (by decide +kernel)
  have fl9 := hts (.fieldLink RX5 9 "PlaneColumn$Signs" "codes" "[I") (by decide +kernel)
  refine lv_iload_n hx hb dX5_at_0 rfl (lv_at hl 1 rfl) ?_
  refine lv_if_lt (tgt := 21) hx hb dX5_at_1 (by decide) (fun c1 => ?_) (fun c1 => ?_)
  ·
    have d1 : ((a : Nat) : Int) < (0 : Int) := my_lt c1 (nI_toInt (by omega)) (by decide +kernel)
    refine lv_iconst (v := (-1)) hx hb dX5_at_21 (by decide +kernel) ?_
    exact my_rpI hx hb hr hlocks (Or.inr (⟨rfl, (by first | assumption | omega | trivial | decide +kernel)⟩)) dX5_at_22
  ·
    have d1 : ((a : Nat) : Int) ≥ (0 : Int) := my_nlt c1 (nI_toInt (by omega)) (by decide +kernel)
    refine lv_iload_n hx hb dX5_at_4 rfl (lv_at hl 1 rfl) ?_
    refine lv_aload_n hx hb dX5_at_5 rfl (lv_at hl 0 rfl) ?_
    refine va_get (ci := 5) (v := .int (nI tz)) (C := RX5) (T := TX5) (N := 2) hx hb hts hi5 hown hK hP 0 rfl rfl 1 (by decide) fl13 (fun _ h9 => h9) rfl dX5_at_6 ?_
    refine lv_icmp_ge (tgt := 21) hx hb dX5_at_9 (by decide) (fun c9 => ?_) (fun c9 => ?_)
    ·
      have d9 : ((a : Nat) : Int) ≥ ((tz : Nat) : Int) := my_ge c9 (nI_toInt (by omega)) (nI_toInt (by omega))
      refine lv_iconst (v := (-1)) hx hb dX5_at_21 (by decide +kernel) ?_
      exact my_rpI hx hb hr hlocks (Or.inr (⟨rfl, (by first | assumption | omega | trivial | decide +kernel)⟩)) dX5_at_22
    ·
      have d9 : ((a : Nat) : Int) < ((tz : Nat) : Int) := my_nge c9 (nI_toInt (by omega)) (nI_toInt (by omega))
      refine lv_aload_n hx hb dX5_at_12 rfl (lv_at hl 0 rfl) ?_
      refine va_get (ci := 5) (v := .ref t1) (C := RX5) (T := TX5) (N := 2) hx hb hts hi5 hown hK hP 0 rfl rfl 0 (by decide) fl9 (fun _ h9 => h9) rfl dX5_at_13 ?_
      refine lv_iload_n hx hb dX5_at_16 rfl (lv_at hl 1 rfl) ?_
      refine va_iald hx hb hK hP 1 0 rfl rfl (vp_in_nI (by omega) (by omega)) dX5_at_17 ?_
      refine my_eqi (y := tf a) (congrArg tf (nI_clamp (by omega))) ?_
      have hb_1 := hR_tf a
      refine lv_goto (tgt := 22) hx hb dX5_at_18 (by decide) ?_
      exact my_rpI hx hb hr hlocks (Or.inl ⟨rfl, (by first | assumption | omega | trivial | decide +kernel)⟩) dX5_at_22
abbrev wl_k_X5_add (cI cJ cK : ClassId) (xt : Nat) (t1 : Nat) (v0_ : Int32) (v1_ : Nat → Int32) : va_W := [(xt, .inr (5, [.ref t1, .int v0_])), (t1, .inl (cI, 100, .inl v1_))]
set_option maxHeartbeats 4000000 in
set_option maxRecDepth 100000 in
theorem k_X5_add (l : Launch) (D : va_G) (cI cJ cK : ClassId) (xt : Nat) (t1 : Nat) (tz : Nat) (tf : Nat → Int32) (v9 : Int32) (hz_tz : tz ≤ 100) (hR_tf : RB 0 255 tf) : ctI l yX5_add wsX5_add ({ frames := 0, cells := 0, slots := 0, locals := 0 } : Room) D (tyIJ cI cJ cK) [.ref xt, .int v9] (wl_k_X5_add cI cJ cK xt t1 (nI tz) tf) (fun (r : Int32) (u : va_W) => (∃ (tz' : Nat) (tf' : Nat → Int32), u = (wl_k_X5_add cI cJ cK xt t1 (nI tz') tf') ∧ r = 1 ∧ tz' ≤ 100 ∧ RB 0 255 tf' ∧ tz' = tz + 4 ∧ tf' = w4 tf tz (sgC v9 24) (sgC v9 16) (sgC v9 8) (sgC v9 0)) ∨ (u = (wl_k_X5_add cI cJ cK xt t1 (nI tz) tf) ∧ r = 0 ∧ 96 < tz)) := by
  refine ctI.of (cc := cX5_add) (maxL := 3) (ret := (some .boolean)) (by decide) rfl (Nat.le_of_ble_eq_true rfl) ?_
  intro p e s m below meth c ls A hx hb hr hts hown hml hlocks hname hA hK hN hP hD hS hl
  have hl : lv_has ls 3 [(0, .ref xt), (1, .int v9)] := hl
  have hown : s.vm.findClass RX5 = some m.cls := hown
  have hi5 : ∀ w ∈ u_ws RX5 TX5 2, w ∈ wsX5_add := by decide +kernel
  have fl13 := hts (.fieldLink RX5 13 "PlaneColumn$Signs" "size" "I") (by decide +kernel)
  have fl9 := hts (.fieldLink RX5 9 "PlaneColumn$Signs" "codes" "[I") (by decide +kernel)
  refine lv_aload_n hx hb dX5_add_0 rfl (lv_at hl 0 rfl) ?_
  refine va_get (ci := 5) (v := .int (nI tz)) (C := RX5) (T := TX5) (N := 2) hx hb hts hi5 hown hK hP 0 rfl rfl 1 (by decide) fl13 (fun _ h9 => h9) rfl dX5_add_1 ?_
  refine lv_iconst (v := 4) hx hb dX5_add_4 (by decide +kernel) ?_
  refine lv_iadd hx hb dX5_add_5 ?_
  refine my_eqi (y := nI (tz + 4)) (my_addN tz 4) ?_
  refine lv_bipush (v := 100) hx hb dX5_add_6 (by decide +kernel) ?_
  refine lv_icmp_le (tgt := 13) hx hb dX5_add_8 (by decide) (fun c8 => ?_) (fun c8 => ?_)
  ·
    have d8 : ((tz + 4 : Nat) : Int) ≤ (100 : Int) := my_le c8 (nI_toInt (by omega)) (by decide +kernel)
    refine lv_iconst (v := 3) hx hb dX5_add_13 (by decide +kernel) ?_
    refine lv_istore_n (lv' := [(2, .int 3), (0, .ref xt), (1, .int v9)]) hx hb dX5_add_14 rfl hl (by decide) rfl (fun ls hl => ?_)
    refine lv_iload_n hx hb dX5_add_15 rfl (lv_at hl 0 rfl) ?_
    refine lv_if_lt (tgt := 54) hx hb dX5_add_16 (by decide) (fun c16 => ?_) (fun c16 => ?_)
    ·
      exact absurd c16 (by decide +kernel)
    ·
      refine lv_aload_n hx hb dX5_add_19 rfl (lv_at hl 1 rfl) ?_
      refine va_get (ci := 5) (v := .ref t1) (C := RX5) (T := TX5) (N := 2) hx hb hts hi5 hown hK hP 0 rfl rfl 0 (by decide) fl9 (fun _ h9 => h9) rfl dX5_add_20 ?_
      refine lv_aload_n hx hb dX5_add_23 rfl (lv_at hl 1 rfl) ?_
      refine va_get (ci := 5) (v := .int (nI tz)) (C := RX5) (T := TX5) (N := 2) hx hb hts hi5 hown hK hP 0 rfl rfl 1 (by decide) fl13 (fun _ h9 => h9) rfl dX5_add_24 ?_
      refine lv_iload_n hx hb dX5_add_27 rfl (lv_at hl 2 rfl) ?_
      refine lv_bipush (v := 8) hx hb dX5_add_28 (by decide +kernel) ?_
      refine lv_iload_n hx hb dX5_add_30 rfl (lv_at hl 0 rfl) ?_
      refine lv_imul hx hb dX5_add_31 ?_
      refine my_eqi (y := 24) (by decide +kernel) ?_
      obtain ⟨z_1, ez_1⟩ : ∃ z : Int32, (v9.toUInt32 >>> ((24 : Int32).toUInt32 &&& Int32.toUInt32 31)).toInt32 = z := ⟨_, rfl⟩
      refine lv_iushr hx hb dX5_add_32 ez_1 ?_
      refine lv_sipush (v := 255) hx hb dX5_add_33 (by decide +kernel) ?_
      refine lv_iand hx hb dX5_add_36 ?_
      refine lv_topi (fun z_2 ez_2 => ?_)
      have hbz_2 : 0 ≤ z_2.toInt ∧ z_2.toInt ≤ 255 := by rw [ez_2]; exact my_andR (by decide +kernel) (by decide +kernel)
      refine va_iast hx hb hK hP hD hS 1 0 rfl rfl (vp_in_nI (by omega) (by omega)) dX5_add_37 (fun H locs hP hD hS => ?_)
      obtain ⟨g_3, eg_3⟩ : ∃ g : Nat → Int32, g = upd tf tz z_2 := ⟨_, rfl⟩
      have eU : upd tf (nI tz : Int32).toNatClampNeg z_2 = g_3 := by rw [eg_3, show (nI tz : Int32).toNatClampNeg = tz from nI_clamp (by omega)]
      rw [eU] at hP hD
      have hR_g_3 : RB 0 255 g_3 := by rw [eg_3]; exact hR_tf.upd rfl (by omega) (by omega)
      have hP : va_P D vwCl (wl_k_X5_add cI cJ cK xt t1 (nI tz) g_3) H := hP
      have hD : va_D A (wl_k_X5_add cI cJ cK xt t1 (nI tz) g_3) := hD
      refine lv_aload_n hx hb dX5_add_38 rfl (lv_at hl 1 rfl) ?_
      refine lv_dup hx hb dX5_add_39 rfl ?_
      refine va_get (ci := 5) (v := .int (nI tz)) (C := RX5) (T := TX5) (N := 2) hx hb hts hi5 hown hK hP 0 rfl rfl 1 (by decide) fl13 (fun _ h9 => h9) rfl dX5_add_40 ?_
      refine lv_iconst (v := 1) hx hb dX5_add_43 (by decide +kernel) ?_
      refine lv_iadd hx hb dX5_add_44 ?_
      refine my_eqi (y := nI (tz + 1)) (my_addN tz 1) ?_
      refine va_put (ci := 5) (v := .int (nI (tz + 1))) (ty := (.int)) (C := RX5) (T := TX5) (N := 2) hx hb hts hi5 tyX5 tyX5_ok nmX5 hown hK hP hD hS 0 rfl rfl 1 (by decide) fl13 (fun _ h9 => h9) rfl (by decide +kernel) rfl rfl (Nat.le_of_ble_eq_true rfl) dX5_add_45 (fun H locs hP hD hS => ?_)
      have hP : va_P D vwCl (wl_k_X5_add cI cJ cK xt t1 (nI (tz + 1)) g_3) H := hP
      have hD : va_D A (wl_k_X5_add cI cJ cK xt t1 (nI (tz + 1)) g_3) := hD
      refine lv_iinc (v := 2) (lv' := [(2, .int 2), (0, .ref xt), (1, .int v9)]) hx hb dX5_add_48 hl (k := 0) rfl (by decide +kernel) (by decide) rfl (fun ls hl => ?_)
      refine lv_goto (tgt := 15) hx hb dX5_add_51 (by decide) ?_
      refine lv_iload_n hx hb dX5_add_15 rfl (lv_at hl 0 rfl) ?_
      refine lv_if_lt (tgt := 54) hx hb dX5_add_16 (by decide) (fun c16 => ?_) (fun c16 => ?_)
      ·
        exact absurd c16 (by decide +kernel)
      ·
        refine lv_aload_n hx hb dX5_add_19 rfl (lv_at hl 1 rfl) ?_
        refine va_get (ci := 5) (v := .ref t1) (C := RX5) (T := TX5) (N := 2) hx hb hts hi5 hown hK hP 0 rfl rfl 0 (by decide) fl9 (fun _ h9 => h9) rfl dX5_add_20 ?_
        refine lv_aload_n hx hb dX5_add_23 rfl (lv_at hl 1 rfl) ?_
        refine va_get (ci := 5) (v := .int (nI (tz + 1))) (C := RX5) (T := TX5) (N := 2) hx hb hts hi5 hown hK hP 0 rfl rfl 1 (by decide) fl13 (fun _ h9 => h9) rfl dX5_add_24 ?_
        refine lv_iload_n hx hb dX5_add_27 rfl (lv_at hl 2 rfl) ?_
        refine lv_bipush (v := 8) hx hb dX5_add_28 (by decide +kernel) ?_
        refine lv_iload_n hx hb dX5_add_30 rfl (lv_at hl 0 rfl) ?_
        refine lv_imul hx hb dX5_add_31 ?_
        refine my_eqi (y := 16) (by decide +kernel) ?_
        obtain ⟨z_4, ez_4⟩ : ∃ z : Int32, (v9.toUInt32 >>> ((16 : Int32).toUInt32 &&& Int32.toUInt32 31)).toInt32 = z := ⟨_, rfl⟩
        refine lv_iushr hx hb dX5_add_32 ez_4 ?_
        refine lv_sipush (v := 255) hx hb dX5_add_33 (by decide +kernel) ?_
        refine lv_iand hx hb dX5_add_36 ?_
        refine lv_topi (fun z_5 ez_5 => ?_)
        have hbz_5 : 0 ≤ z_5.toInt ∧ z_5.toInt ≤ 255 := by rw [ez_5]; exact my_andR (by decide +kernel) (by decide +kernel)
        refine va_iast hx hb hK hP hD hS 1 0 rfl rfl (vp_in_nI (by omega) (by omega)) dX5_add_37 (fun H locs hP hD hS => ?_)
        obtain ⟨g_6, eg_6⟩ : ∃ g : Nat → Int32, g = upd g_3 (tz + 1) z_5 := ⟨_, rfl⟩
        have eU : upd g_3 (nI (tz + 1) : Int32).toNatClampNeg z_5 = g_6 := by rw [eg_6, show (nI (tz + 1) : Int32).toNatClampNeg = tz + 1 from nI_clamp (by omega)]
        rw [eU] at hP hD
        have hR_g_6 : RB 0 255 g_6 := by rw [eg_6]; exact hR_g_3.upd rfl (by omega) (by omega)
        have hP : va_P D vwCl (wl_k_X5_add cI cJ cK xt t1 (nI (tz + 1)) g_6) H := hP
        have hD : va_D A (wl_k_X5_add cI cJ cK xt t1 (nI (tz + 1)) g_6) := hD
        refine lv_aload_n hx hb dX5_add_38 rfl (lv_at hl 1 rfl) ?_
        refine lv_dup hx hb dX5_add_39 rfl ?_
        refine va_get (ci := 5) (v := .int (nI (tz + 1))) (C := RX5) (T := TX5) (N := 2) hx hb hts hi5 hown hK hP 0 rfl rfl 1 (by decide) fl13 (fun _ h9 => h9) rfl dX5_add_40 ?_
        refine lv_iconst (v := 1) hx hb dX5_add_43 (by decide +kernel) ?_
        refine lv_iadd hx hb dX5_add_44 ?_
        refine my_eqi (y := nI (tz + 2)) (my_addN (tz + 1) 1) ?_
        refine va_put (ci := 5) (v := .int (nI (tz + 2))) (ty := (.int)) (C := RX5) (T := TX5) (N := 2) hx hb hts hi5 tyX5 tyX5_ok nmX5 hown hK hP hD hS 0 rfl rfl 1 (by decide) fl13 (fun _ h9 => h9) rfl (by decide +kernel) rfl rfl (Nat.le_of_ble_eq_true rfl) dX5_add_45 (fun H locs hP hD hS => ?_)
        have hP : va_P D vwCl (wl_k_X5_add cI cJ cK xt t1 (nI (tz + 2)) g_6) H := hP
        have hD : va_D A (wl_k_X5_add cI cJ cK xt t1 (nI (tz + 2)) g_6) := hD
        refine lv_iinc (v := 1) (lv' := [(2, .int 1), (0, .ref xt), (1, .int v9)]) hx hb dX5_add_48 hl (k := 0) rfl (by decide +kernel) (by decide) rfl (fun ls hl => ?_)
        refine lv_goto (tgt := 15) hx hb dX5_add_51 (by decide) ?_
        refine lv_iload_n hx hb dX5_add_15 rfl (lv_at hl 0 rfl) ?_
        refine lv_if_lt (tgt := 54) hx hb dX5_add_16 (by decide) (fun c16 => ?_) (fun c16 => ?_)
        ·
          exact absurd c16 (by decide +kernel)
        ·
          refine lv_aload_n hx hb dX5_add_19 rfl (lv_at hl 1 rfl) ?_
          refine va_get (ci := 5) (v := .ref t1) (C := RX5) (T := TX5) (N := 2) hx hb hts hi5 hown hK hP 0 rfl rfl 0 (by decide) fl9 (fun _ h9 => h9) rfl dX5_add_20 ?_
          refine lv_aload_n hx hb dX5_add_23 rfl (lv_at hl 1 rfl) ?_
          refine va_get (ci := 5) (v := .int (nI (tz + 2))) (C := RX5) (T := TX5) (N := 2) hx hb hts hi5 hown hK hP 0 rfl rfl 1 (by decide) fl13 (fun _ h9 => h9) rfl dX5_add_24 ?_
          refine lv_iload_n hx hb dX5_add_27 rfl (lv_at hl 2 rfl) ?_
          refine lv_bipush (v := 8) hx hb dX5_add_28 (by decide +kernel) ?_
          refine lv_iload_n hx hb dX5_add_30 rfl (lv_at hl 0 rfl) ?_
          refine lv_imul hx hb dX5_add_31 ?_
          refine my_eqi (y := 8) (by decide +kernel) ?_
          obtain ⟨z_7, ez_7⟩ : ∃ z : Int32, (v9.toUInt32 >>> ((8 : Int32).toUInt32 &&& Int32.toUInt32 31)).toInt32 = z := ⟨_, rfl⟩
          refine lv_iushr hx hb dX5_add_32 ez_7 ?_
          refine lv_sipush (v := 255) hx hb dX5_add_33 (by decide +kernel) ?_
          refine lv_iand hx hb dX5_add_36 ?_
          refine lv_topi (fun z_8 ez_8 => ?_)
          have hbz_8 : 0 ≤ z_8.toInt ∧ z_8.toInt ≤ 255 := by rw [ez_8]; exact my_andR (by decide +kernel) (by decide +kernel)
          refine va_iast hx hb hK hP hD hS 1 0 rfl rfl (vp_in_nI (by omega) (by omega)) dX5_add_37 (fun H locs hP hD hS => ?_)
          obtain ⟨g_9, eg_9⟩ : ∃ g : Nat → Int32, g = upd g_6 (tz + 2) z_8 := ⟨_, rfl⟩
          have eU : upd g_6 (nI (tz + 2) : Int32).toNatClampNeg z_8 = g_9 := by rw [eg_9, show (nI (tz + 2) : Int32).toNatClampNeg = tz + 2 from nI_clamp (by omega)]
          rw [eU] at hP hD
          have hR_g_9 : RB 0 255 g_9 := by rw [eg_9]; exact hR_g_6.upd rfl (by omega) (by omega)
          have hP : va_P D vwCl (wl_k_X5_add cI cJ cK xt t1 (nI (tz + 2)) g_9) H := hP
          have hD : va_D A (wl_k_X5_add cI cJ cK xt t1 (nI (tz + 2)) g_9) := hD
          refine lv_aload_n hx hb dX5_add_38 rfl (lv_at hl 1 rfl) ?_
          refine lv_dup hx hb dX5_add_39 rfl ?_
          refine va_get (ci := 5) (v := .int (nI (tz + 2))) (C := RX5) (T := TX5) (N := 2) hx hb hts hi5 hown hK hP 0 rfl rfl 1 (by decide) fl13 (fun _ h9 => h9) rfl dX5_add_40 ?_
          refine lv_iconst (v := 1) hx hb dX5_add_43 (by decide +kernel) ?_
          refine lv_iadd hx hb dX5_add_44 ?_
          refine my_eqi (y := nI (tz + 3)) (my_addN (tz + 2) 1) ?_
          refine va_put (ci := 5) (v := .int (nI (tz + 3))) (ty := (.int)) (C := RX5) (T := TX5) (N := 2) hx hb hts hi5 tyX5 tyX5_ok nmX5 hown hK hP hD hS 0 rfl rfl 1 (by decide) fl13 (fun _ h9 => h9) rfl (by decide +kernel) rfl rfl (Nat.le_of_ble_eq_true rfl) dX5_add_45 (fun H locs hP hD hS => ?_)
          have hP : va_P D vwCl (wl_k_X5_add cI cJ cK xt t1 (nI (tz + 3)) g_9) H := hP
          have hD : va_D A (wl_k_X5_add cI cJ cK xt t1 (nI (tz + 3)) g_9) := hD
          refine lv_iinc (v := 0) (lv' := [(2, .int 0), (0, .ref xt), (1, .int v9)]) hx hb dX5_add_48 hl (k := 0) rfl (by decide +kernel) (by decide) rfl (fun ls hl => ?_)
          refine lv_goto (tgt := 15) hx hb dX5_add_51 (by decide) ?_
          refine lv_iload_n hx hb dX5_add_15 rfl (lv_at hl 0 rfl) ?_
          refine lv_if_lt (tgt := 54) hx hb dX5_add_16 (by decide) (fun c16 => ?_) (fun c16 => ?_)
          ·
            exact absurd c16 (by decide +kernel)
          ·
            refine lv_aload_n hx hb dX5_add_19 rfl (lv_at hl 1 rfl) ?_
            refine va_get (ci := 5) (v := .ref t1) (C := RX5) (T := TX5) (N := 2) hx hb hts hi5 hown hK hP 0 rfl rfl 0 (by decide) fl9 (fun _ h9 => h9) rfl dX5_add_20 ?_
            refine lv_aload_n hx hb dX5_add_23 rfl (lv_at hl 1 rfl) ?_
            refine va_get (ci := 5) (v := .int (nI (tz + 3))) (C := RX5) (T := TX5) (N := 2) hx hb hts hi5 hown hK hP 0 rfl rfl 1 (by decide) fl13 (fun _ h9 => h9) rfl dX5_add_24 ?_
            refine lv_iload_n hx hb dX5_add_27 rfl (lv_at hl 2 rfl) ?_
            refine lv_bipush (v := 8) hx hb dX5_add_28 (by decide +kernel) ?_
            refine lv_iload_n hx hb dX5_add_30 rfl (lv_at hl 0 rfl) ?_
            refine lv_imul hx hb dX5_add_31 ?_
            refine my_eqi (y := 0) (by decide +kernel) ?_
            obtain ⟨z_10, ez_10⟩ : ∃ z : Int32, (v9.toUInt32 >>> ((0 : Int32).toUInt32 &&& Int32.toUInt32 31)).toInt32 = z := ⟨_, rfl⟩
            refine lv_iushr hx hb dX5_add_32 ez_10 ?_
            refine lv_sipush (v := 255) hx hb dX5_add_33 (by decide +kernel) ?_
            refine lv_iand hx hb dX5_add_36 ?_
            refine lv_topi (fun z_11 ez_11 => ?_)
            have hbz_11 : 0 ≤ z_11.toInt ∧ z_11.toInt ≤ 255 := by rw [ez_11]; exact my_andR (by decide +kernel) (by decide +kernel)
            refine va_iast hx hb hK hP hD hS 1 0 rfl rfl (vp_in_nI (by omega) (by omega)) dX5_add_37 (fun H locs hP hD hS => ?_)
            obtain ⟨g_12, eg_12⟩ : ∃ g : Nat → Int32, g = upd g_9 (tz + 3) z_11 := ⟨_, rfl⟩
            have eU : upd g_9 (nI (tz + 3) : Int32).toNatClampNeg z_11 = g_12 := by rw [eg_12, show (nI (tz + 3) : Int32).toNatClampNeg = tz + 3 from nI_clamp (by omega)]
            rw [eU] at hP hD
            have hR_g_12 : RB 0 255 g_12 := by rw [eg_12]; exact hR_g_9.upd rfl (by omega) (by omega)
            have hP : va_P D vwCl (wl_k_X5_add cI cJ cK xt t1 (nI (tz + 3)) g_12) H := hP
            have hD : va_D A (wl_k_X5_add cI cJ cK xt t1 (nI (tz + 3)) g_12) := hD
            refine lv_aload_n hx hb dX5_add_38 rfl (lv_at hl 1 rfl) ?_
            refine lv_dup hx hb dX5_add_39 rfl ?_
            refine va_get (ci := 5) (v := .int (nI (tz + 3))) (C := RX5) (T := TX5) (N := 2) hx hb hts hi5 hown hK hP 0 rfl rfl 1 (by decide) fl13 (fun _ h9 => h9) rfl dX5_add_40 ?_
            refine lv_iconst (v := 1) hx hb dX5_add_43 (by decide +kernel) ?_
            refine lv_iadd hx hb dX5_add_44 ?_
            refine my_eqi (y := nI (tz + 4)) (my_addN (tz + 3) 1) ?_
            refine va_put (ci := 5) (v := .int (nI (tz + 4))) (ty := (.int)) (C := RX5) (T := TX5) (N := 2) hx hb hts hi5 tyX5 tyX5_ok nmX5 hown hK hP hD hS 0 rfl rfl 1 (by decide) fl13 (fun _ h9 => h9) rfl (by decide +kernel) rfl rfl (Nat.le_of_ble_eq_true rfl) dX5_add_45 (fun H locs hP hD hS => ?_)
            have hP : va_P D vwCl (wl_k_X5_add cI cJ cK xt t1 (nI (tz + 4)) g_12) H := hP
            have hD : va_D A (wl_k_X5_add cI cJ cK xt t1 (nI (tz + 4)) g_12) := hD
            refine lv_iinc (v := (-1)) (lv' := [(2, .int (-1)), (0, .ref xt), (1, .int v9)]) hx hb dX5_add_48 hl (k := 0) rfl (by decide +kernel) (by decide) rfl (fun ls hl => ?_)
            refine lv_goto (tgt := 15) hx hb dX5_add_51 (by decide) ?_
            refine lv_iload_n hx hb dX5_add_15 rfl (lv_at hl 0 rfl) ?_
            refine lv_if_lt (tgt := 54) hx hb dX5_add_16 (by decide) (fun c16 => ?_) (fun c16 => ?_)
            ·
              refine lv_iconst (v := 1) hx hb dX5_add_54 (by decide +kernel) ?_
              exact my_retZ hx hb hr hlocks (by decide +kernel) hK hS (wl_k_X5_add cI cJ cK xt t1 (nI (tz + 4)) g_12) hP hD (Or.inl ⟨(tz + 4), g_12, rfl, rfl, (by first | assumption | omega | trivial | decide +kernel), hR_g_12, (by first | assumption | omega | trivial | decide +kernel), (by subst_vars; rfl)⟩) dX5_add_55
            ·
              exact absurd c16 (by decide +kernel)
  ·
    have d8 : ((tz + 4 : Nat) : Int) > (100 : Int) := my_nle c8 (nI_toInt (by omega)) (by decide +kernel)
    refine lv_iconst (v := 0) hx hb dX5_add_11 (by decide +kernel) ?_
    exact my_retZ hx hb hr hlocks (by decide +kernel) hK hS (wl_k_X5_add cI cJ cK xt t1 (nI tz) tf) hP hD (Or.inr (⟨rfl, rfl, (by first | assumption | omega | trivial | decide +kernel)⟩)) dX5_add_12
