set_option maxHeartbeats 4000000 in
set_option maxRecDepth 100000 in
theorem k_X9_in (l : Launch) (D : va_G) (cI cJ : ClassId) (v : Int64) (lo : Int64) (hi : Int64) (va : Int) (vb : Int) (vc : Int) (ha : v.toInt = va) (hb9 : lo.toInt = vb) (hc : hi.toInt = vc) : cpI l yX9_in wsX9_in ({ frames := 0, cells := 0, slots := 0, locals := 0 } : Room) D (tyIJ cI cJ) [.long v, .long lo, .long hi] [] (fun (r : Int32) => (r = 1 ∧ vb ≤ va ∧ va ≤ vc) ∨ (r = 0 ∧ (va < vb ∨ vc < va))) := by
  refine cpI.of (cc := cX9_in) (maxL := 6) (ret := (some .boolean)) (by decide) rfl (Nat.le_of_ble_eq_true rfl) ?_
  intro p e s m below meth c ls hx hb hr hts hown hml hlocks hname hK hN hP hl
  have hl : lv_has ls 6 [(0, .long v), (2, .long lo), (4, .long hi)] := hl
  have hown : s.vm.findClass RX9 = some m.cls := hown
  refine lv_lload_n hx hb dX9_in_0 rfl (lv_at hl 0 rfl) ?_
  refine lv_lload_n hx hb dX9_in_1 rfl (lv_at hl 1 rfl) ?_
  refine W.lcmp hx hb dX9_in_2 ?_
  refine lv_if_lt (tgt := 17) hx hb dX9_in_3 (by decide) (fun c3 => ?_) (fun c3 => ?_)
  ·
    have d3 : v.toInt < lo.toInt := my_llt c3 rfl rfl
    refine lv_iconst (v := 0) hx hb dX9_in_17 (by decide +kernel) ?_
    exact my_rpZ hx hb hr hlocks (by decide +kernel) (Or.inr (⟨rfl, (by first | omega | assumption | trivial | decide +kernel)⟩)) dX9_in_18
  ·
    have d3 : v.toInt ≥ lo.toInt := my_lnlt c3 rfl rfl
    refine lv_lload_n hx hb dX9_in_6 rfl (lv_at hl 0 rfl) ?_
    refine lv_lload hx hb dX9_in_7 (lv_at hl 2 rfl) ?_
    refine W.lcmp hx hb dX9_in_9 ?_
    refine lv_if_gt (tgt := 17) hx hb dX9_in_10 (by decide) (fun c10 => ?_) (fun c10 => ?_)
    ·
      have d10 : v.toInt > hi.toInt := my_lgt c10 rfl rfl
      refine lv_iconst (v := 0) hx hb dX9_in_17 (by decide +kernel) ?_
      exact my_rpZ hx hb hr hlocks (by decide +kernel) (Or.inr (⟨rfl, (by first | omega | assumption | trivial | decide +kernel)⟩)) dX9_in_18
    ·
      have d10 : v.toInt ≤ hi.toInt := my_lngt c10 rfl rfl
      refine lv_iconst (v := 1) hx hb dX9_in_13 (by decide +kernel) ?_
      refine lv_goto (tgt := 18) hx hb dX9_in_14 (by decide) ?_
      exact my_rpZ hx hb hr hlocks (by decide +kernel) (Or.inl ⟨rfl, (by first | omega | assumption | trivial | decide +kernel), (by first | omega | assumption | trivial | decide +kernel)⟩) dX9_in_18
set_option maxHeartbeats 4000000 in
set_option maxRecDepth 100000 in
theorem k0_X9_flag (l : Launch) (D : va_G) (cI cJ : ClassId)  : cpI l yX9_flag wsX9_flag ({ frames := 0, cells := 0, slots := 0, locals := 0 } : Room) D (tyIJ cI cJ) [.int 0] [] (fun (r : Int32) => r = 0) := by
  refine cpI.of (cc := cX9_flag) (maxL := 1) (ret := (some .int)) (by decide) rfl (Nat.le_of_ble_eq_true rfl) ?_
  intro p e s m below meth c ls hx hb hr hts hown hml hlocks hname hK hN hP hl
  have hl : lv_has ls 1 [(0, .int 0)] := hl
  have hown : s.vm.findClass RX9 = some m.cls := hown
  refine lv_iload_n hx hb dX9_flag_0 rfl (lv_at hl 0 rfl) ?_
  refine lv_if_eq (tgt := 8) hx hb dX9_flag_1 (by decide) (fun c1 => ?_) (fun c1 => ?_)
  ·
    refine lv_iconst (v := 0) hx hb dX9_flag_8 (by decide +kernel) ?_
    exact my_rpI hx hb hr hlocks (rfl) dX9_flag_9
  ·
    exact absurd c1 (by decide +kernel)
set_option maxHeartbeats 4000000 in
set_option maxRecDepth 100000 in
theorem k1_X9_flag (l : Launch) (D : va_G) (cI cJ : ClassId)  : cpI l yX9_flag wsX9_flag ({ frames := 0, cells := 0, slots := 0, locals := 0 } : Room) D (tyIJ cI cJ) [.int 1] [] (fun (r : Int32) => r = 1) := by
  refine cpI.of (cc := cX9_flag) (maxL := 1) (ret := (some .int)) (by decide) rfl (Nat.le_of_ble_eq_true rfl) ?_
  intro p e s m below meth c ls hx hb hr hts hown hml hlocks hname hK hN hP hl
  have hl : lv_has ls 1 [(0, .int 1)] := hl
  have hown : s.vm.findClass RX9 = some m.cls := hown
  refine lv_iload_n hx hb dX9_flag_0 rfl (lv_at hl 0 rfl) ?_
  refine lv_if_eq (tgt := 8) hx hb dX9_flag_1 (by decide) (fun c1 => ?_) (fun c1 => ?_)
  ·
    exact absurd c1 (by decide +kernel)
  ·
    refine lv_iconst (v := 1) hx hb dX9_flag_4 (by decide +kernel) ?_
    refine lv_goto (tgt := 9) hx hb dX9_flag_5 (by decide) ?_
    exact my_rpI hx hb hr hlocks (rfl) dX9_flag_9
set_option maxHeartbeats 4000000 in
set_option maxRecDepth 100000 in
theorem k_X9_isNumber (l : Launch) (D : va_G) (cI cJ : ClassId) (v : Int32) : cpI l yX9_isNumber wsX9_isNumber ({ frames := 1, cells := 0, slots := 0, locals := 60 } : Room) D (tyIJ cI cJ) [.int v] [] (fun (r : Int32) => (r = 1 ∧ 0 ≤ v.toInt ∧ v.toInt ≤ 255) ∨ (r = 0 ∧ (v.toInt < 0 ∨ 255 < v.toInt))) := by
  refine cpI.of (cc := cX9_isNumber) (maxL := 1) (ret := (some .boolean)) (by decide) rfl (Nat.le_of_ble_eq_true rfl) ?_
  intro p e s m below meth c ls hx hb hr hts hown hml hlocks hname hK hN hP hl
  have hl : lv_has ls 1 [(0, .int v)] := hl
  have hown : s.vm.findClass RX9 = some m.cls := hown
  refine lv_iload_n hx hb dX9_isNumber_0 rfl (lv_at hl 0 rfl) ?_
  refine lv_i2l (v := v.toInt64) hx hb dX9_isNumber_1 rfl ?_
  refine lv_lconst (v := 0) hx hb dX9_isNumber_2 (by decide +kernel) ?_
  refine lv_ldc2 (v := 255) hx hb hown (hts (.constantLong RX9 91 (255)) (by decide +kernel)) dX9_isNumber_3 ?_
  refine my_gpI (my_pS (As := [.long v.toInt64, .long 0, .long 255]) (rest := []) ⟨hx, hb, hml, hown, hts⟩ (va_cwS 3 hts gX9_isNumber_X9_in rfl rfl rfl (by decide +kernel) ⟨Nat.le_of_ble_eq_true rfl, Nat.le_of_ble_eq_true rfl⟩) hN hK hP [] rfl rfl hl.1 rfl (Nat.le_of_ble_eq_true rfl) dX9_isNumber_6 ⟨Nat.le_of_ble_eq_true rfl, Nat.le_of_ble_eq_true rfl⟩  (k_X9_in l D cI cJ v.toInt64 (0 : Int64) (255 : Int64) v.toInt (0 : Int) (255 : Int) (Int32.toInt_toInt64 _) (by decide +kernel) (by decide +kernel))) (fun r hp => ?_)
  rcases hp with ⟨rfl, ha_1, hb_2⟩ | ⟨rfl, ha_3⟩
  ·
    exact my_rpZ hx hb hr hlocks (by decide +kernel) (Or.inl ⟨rfl, (by first | omega | assumption | trivial | decide +kernel), (by first | omega | assumption | trivial | decide +kernel)⟩) dX9_isNumber_9
  ·
    exact my_rpZ hx hb hr hlocks (by decide +kernel) (Or.inr (⟨rfl, (by first | omega | assumption | trivial | decide +kernel)⟩)) dX9_isNumber_9
set_option maxHeartbeats 4000000 in
set_option maxRecDepth 100000 in
theorem k0_X9_isPlace (l : Launch) (D : va_G) (cI cJ : ClassId) (m0 : Nat) (a_row : Nat) (a_tape : Nat) (a_number : Nat) (a_read : Nat) (a_readBits : Nat) (a_stands : Nat) (a_parted : Nat) (a_bitsWere : Nat) (a_stood : Nat) (a_chosen : Nat) (a_bestChosen : Nat) (a_often : Nat) (a_sorted : Nat) (a_risen : Nat) (a_risenWays : Nat) (i_thrown : Int32) (i_told : Int32) (i_taped : Int32) (i_at : Int32) (i_to : Int32) (i_readMany : Int32) (i_fewest : Int32) (i_size : Int32) (p9 : Int32) : cpI l yX9_isPlace wsX9_isPlace ({ frames := 1, cells := 0, slots := 0, locals := 60 } : Room) D (tyIJ cI cJ) [.ref m0, .int p9] [(m0, .inr (9, [.int i_thrown, .int i_told, .ref a_row, .ref a_tape, .int i_taped, .int i_at, .int i_to, .int 0, .ref a_number, .ref a_read, .int i_readMany, .ref a_readBits, .ref a_stands, .ref a_parted, .ref a_bitsWere, .ref a_stood, .ref a_chosen, .ref a_bestChosen, .int i_fewest, .ref a_often, .ref a_sorted, .int i_size, .ref a_risen, .ref a_risenWays]))] (fun (r : Int32) => r = 0) := by
  refine cpI.of (cc := cX9_isPlace) (maxL := 2) (ret := (some .boolean)) (by decide) rfl (Nat.le_of_ble_eq_true rfl) ?_
  intro p e s m below meth c ls hx hb hr hts hown hml hlocks hname hK hN hP hl
  have hl : lv_has ls 2 [(0, .ref m0), (1, .int p9)] := hl
  have hown : s.vm.findClass RX9 = some m.cls := hown
  have hi9 : ∀ w ∈ u_ws RX9 TX9 24, w ∈ wsX9_isPlace := by decide +kernel
  have fl88 := hts (.fieldLink RX9 88 "PlaneColumnModel" "many" "I") (by decide +kernel)
  refine lv_iload_n hx hb dX9_isPlace_0 rfl (lv_at hl 1 rfl) ?_
  refine lv_i2l (v := p9.toInt64) hx hb dX9_isPlace_1 rfl ?_
  refine lv_lconst (v := 0) hx hb dX9_isPlace_2 (by decide +kernel) ?_
  refine lv_aload_n hx hb dX9_isPlace_3 rfl (lv_at hl 0 rfl) ?_
  refine va_get (ci := 9) (v := .int 0) (C := RX9) (T := TX9) (N := 24) hx hb hts hi9 hown hK hP 0 rfl rfl 7 (by decide) fl88 (fun _ h9 => h9) rfl dX9_isPlace_4 ?_
  refine lv_iconst (v := 1) hx hb dX9_isPlace_7 (by decide +kernel) ?_
  refine lv_isub hx hb dX9_isPlace_8 ?_
  refine my_eqi (y := (-1)) (by decide +kernel) ?_
  refine lv_i2l (v := (-1)) hx hb dX9_isPlace_9 (by decide +kernel) ?_
  refine my_gpI (my_pS (As := [.long p9.toInt64, .long 0, .long (-1)]) (rest := []) ⟨hx, hb, hml, hown, hts⟩ (va_cwS 3 hts gX9_isPlace_X9_in rfl rfl rfl (by decide +kernel) ⟨Nat.le_of_ble_eq_true rfl, Nat.le_of_ble_eq_true rfl⟩) hN hK hP [] rfl rfl hl.1 rfl (Nat.le_of_ble_eq_true rfl) dX9_isPlace_10 ⟨Nat.le_of_ble_eq_true rfl, Nat.le_of_ble_eq_true rfl⟩  (k_X9_in l D cI cJ p9.toInt64 (0 : Int64) (-1 : Int64) p9.toInt (0 : Int) (-1 : Int) (Int32.toInt_toInt64 _) (by decide +kernel) (by decide +kernel))) (fun r hp => ?_)
  rcases hp with ⟨rfl, ha_1, hb_2⟩ | ⟨rfl, ha_3⟩
  ·
    exfalso; omega
  ·
    exact my_rpZ hx hb hr hlocks (by decide +kernel) (rfl) dX9_isPlace_13
set_option maxHeartbeats 4000000 in
set_option maxRecDepth 100000 in
theorem k0_X9_isSpan (l : Launch) (D : va_G) (cI cJ : ClassId) (m0 : Nat) (a_row : Nat) (a_tape : Nat) (a_number : Nat) (a_read : Nat) (a_readBits : Nat) (a_stands : Nat) (a_parted : Nat) (a_bitsWere : Nat) (a_stood : Nat) (a_chosen : Nat) (a_bestChosen : Nat) (a_often : Nat) (a_sorted : Nat) (a_risen : Nat) (a_risenWays : Nat) (i_thrown : Int32) (i_told : Int32) (i_taped : Int32) (i_at : Int32) (i_to : Int32) (i_readMany : Int32) (i_fewest : Int32) (i_size : Int32) (l9 : Int32) (r9 : Int32) : cpI l yX9_isSpan wsX9_isSpan ({ frames := 0, cells := 0, slots := 0, locals := 0 } : Room) D (tyIJ cI cJ) [.ref m0, .int l9, .int r9] [(m0, .inr (9, [.int i_thrown, .int i_told, .ref a_row, .ref a_tape, .int i_taped, .int i_at, .int i_to, .int 0, .ref a_number, .ref a_read, .int i_readMany, .ref a_readBits, .ref a_stands, .ref a_parted, .ref a_bitsWere, .ref a_stood, .ref a_chosen, .ref a_bestChosen, .int i_fewest, .ref a_often, .ref a_sorted, .int i_size, .ref a_risen, .ref a_risenWays]))] (fun (r : Int32) => (r = 1 ∧ l9 = 0 ∧ r9 = 0) ∨ (r = 0 ∧ (l9.toInt < 0 ∨ r9.toInt < l9.toInt ∨ 0 < r9.toInt))) := by
  refine cpI.of (cc := cX9_isSpan) (maxL := 3) (ret := (some .boolean)) (by decide) rfl (Nat.le_of_ble_eq_true rfl) ?_
  intro p e s m below meth c ls hx hb hr hts hown hml hlocks hname hK hN hP hl
  have hl : lv_has ls 3 [(0, .ref m0), (1, .int l9), (2, .int r9)] := hl
  have hown : s.vm.findClass RX9 = some m.cls := hown
  have hi9 : ∀ w ∈ u_ws RX9 TX9 24, w ∈ wsX9_isSpan := by decide +kernel
  have fl88 := hts (.fieldLink RX9 88 "PlaneColumnModel" "many" "I") (by decide +kernel)
  refine lv_iload_n hx hb dX9_isSpan_0 rfl (lv_at hl 1 rfl) ?_
  refine lv_if_lt (tgt := 21) hx hb dX9_isSpan_1 (by decide) (fun c1 => ?_) (fun c1 => ?_)
  ·
    have d1 : l9.toInt < (0 : Int) := my_lt c1 rfl (by decide +kernel)
    refine lv_iconst (v := 0) hx hb dX9_isSpan_21 (by decide +kernel) ?_
    exact my_rpZ hx hb hr hlocks (by decide +kernel) (Or.inr (⟨rfl, (by first | omega | assumption | trivial | decide +kernel)⟩)) dX9_isSpan_22
  ·
    have d1 : l9.toInt ≥ (0 : Int) := my_nlt c1 rfl (by decide +kernel)
    refine lv_iload_n hx hb dX9_isSpan_4 rfl (lv_at hl 1 rfl) ?_
    refine lv_iload_n hx hb dX9_isSpan_5 rfl (lv_at hl 2 rfl) ?_
    refine lv_icmp_gt (tgt := 21) hx hb dX9_isSpan_6 (by decide) (fun c6 => ?_) (fun c6 => ?_)
    ·
      have d6 : l9.toInt > r9.toInt := my_gt c6 rfl rfl
      refine lv_iconst (v := 0) hx hb dX9_isSpan_21 (by decide +kernel) ?_
      exact my_rpZ hx hb hr hlocks (by decide +kernel) (Or.inr (⟨rfl, (by first | omega | assumption | trivial | decide +kernel)⟩)) dX9_isSpan_22
    ·
      have d6 : l9.toInt ≤ r9.toInt := my_ngt c6 rfl rfl
      refine lv_iload_n hx hb dX9_isSpan_9 rfl (lv_at hl 2 rfl) ?_
      refine lv_aload_n hx hb dX9_isSpan_10 rfl (lv_at hl 0 rfl) ?_
      refine va_get (ci := 9) (v := .int 0) (C := RX9) (T := TX9) (N := 24) hx hb hts hi9 hown hK hP 0 rfl rfl 7 (by decide) fl88 (fun _ h9 => h9) rfl dX9_isSpan_11 ?_
      refine lv_icmp_gt (tgt := 21) hx hb dX9_isSpan_14 (by decide) (fun c14 => ?_) (fun c14 => ?_)
      ·
        have d14 : r9.toInt > (0 : Int) := my_gt c14 rfl (by decide +kernel)
        refine lv_iconst (v := 0) hx hb dX9_isSpan_21 (by decide +kernel) ?_
        exact my_rpZ hx hb hr hlocks (by decide +kernel) (Or.inr (⟨rfl, (by first | omega | assumption | trivial | decide +kernel)⟩)) dX9_isSpan_22
      ·
        have d14 : r9.toInt ≤ (0 : Int) := my_ngt c14 rfl (by decide +kernel)
        refine lv_iconst (v := 1) hx hb dX9_isSpan_17 (by decide +kernel) ?_
        refine lv_goto (tgt := 22) hx hb dX9_isSpan_18 (by decide) ?_
        exact my_rpZ hx hb hr hlocks (by decide +kernel) (Or.inl ⟨rfl, (by first | rfl | exact my_eqI (a := 0) (by omega) (by decide +kernel)), (by first | rfl | exact my_eqI (a := 0) (by omega) (by decide +kernel))⟩) dX9_isSpan_22
set_option maxHeartbeats 4000000 in
set_option maxRecDepth 100000 in
theorem k_X9_enters (l : Launch) (D : va_G) (cI cJ : ClassId) (m0 : Nat) (a_row : Nat) (a_tape : Nat) (a_number : Nat) (a_read : Nat) (a_readBits : Nat) (a_stands : Nat) (a_parted : Nat) (a_bitsWere : Nat) (a_stood : Nat) (a_chosen : Nat) (a_bestChosen : Nat) (a_often : Nat) (a_sorted : Nat) (a_risen : Nat) (a_risenWays : Nat) (i_thrown : Int32) (i_taped : Int32) (i_at : Int32) (i_to : Int32) (i_many : Int32) (i_readMany : Int32) (i_fewest : Int32) (i_size : Int32) (k : Nat) (f : Nat → Int64) (v : Int64) (hk : k < 64) : ctV l yX9_enters wsX9_enters ({ frames := 0, cells := 0, slots := 0, locals := 0 } : Room) D (tyIJ cI cJ) [.ref m0, .long v] [(m0, .inr (9, [.int i_thrown, .int (nI k), .ref a_row, .ref a_tape, .int i_taped, .int i_at, .int i_to, .int i_many, .ref a_number, .ref a_read, .int i_readMany, .ref a_readBits, .ref a_stands, .ref a_parted, .ref a_bitsWere, .ref a_stood, .ref a_chosen, .ref a_bestChosen, .int i_fewest, .ref a_often, .ref a_sorted, .int i_size, .ref a_risen, .ref a_risenWays])), (a_row, .inl (cJ, 64, .inr (.inl f)))] (fun (u : va_W) => ∃ (f' : Nat → Int64), u = [(m0, .inr (9, [.int i_thrown, .int (nI (k + 1)), .ref a_row, .ref a_tape, .int i_taped, .int i_at, .int i_to, .int i_many, .ref a_number, .ref a_read, .int i_readMany, .ref a_readBits, .ref a_stands, .ref a_parted, .ref a_bitsWere, .ref a_stood, .ref a_chosen, .ref a_bestChosen, .int i_fewest, .ref a_often, .ref a_sorted, .int i_size, .ref a_risen, .ref a_risenWays])), (a_row, .inl (cJ, 64, .inr (.inl f')))]) := by
  refine ctV.of (cc := cX9_enters) (maxL := 3) (ret := none) (by decide) rfl (Nat.le_of_ble_eq_true rfl) ?_
  intro p e s m below meth c ls A hx hb hr hts hown hml hlocks hname hA hK hN hP hD hS hl
  have hl : lv_has ls 3 [(0, .ref m0), (1, .long v)] := hl
  have hown : s.vm.findClass RX9 = some m.cls := hown
  have hi9 : ∀ w ∈ u_ws RX9 TX9 24, w ∈ wsX9_enters := by decide +kernel
  have fl11 := hts (.fieldLink RX9 11 "PlaneColumnModel" "told" "I") (by decide +kernel)
  have fl7 := hts (.fieldLink RX9 7 "PlaneColumnModel" "row" "[J") (by decide +kernel)
  refine lv_aload_n hx hb dX9_enters_0 rfl (lv_at hl 0 rfl) ?_
  refine va_get (ci := 9) (v := .ref a_row) (C := RX9) (T := TX9) (N := 24) hx hb hts hi9 hown hK hP 0 rfl rfl 2 (by decide) fl7 (fun _ h9 => h9) rfl dX9_enters_1 ?_
  refine lv_aload_n hx hb dX9_enters_4 rfl (lv_at hl 0 rfl) ?_
  refine va_get (ci := 9) (v := .int (nI k)) (C := RX9) (T := TX9) (N := 24) hx hb hts hi9 hown hK hP 0 rfl rfl 1 (by decide) fl11 (fun _ h9 => h9) rfl dX9_enters_5 ?_
  refine lv_lload_n hx hb dX9_enters_8 rfl (lv_at hl 1 rfl) ?_
  refine va_last hx hb hK hP hD hS 1 1 rfl rfl (vp_in_nI (by omega) (by omega)) dX9_enters_9 (fun H locs hP hD hS => ?_)
  have eU : vp_updL f (nI k : Int32).toNatClampNeg v = vp_updL f k v := by rw [show (nI k : Int32).toNatClampNeg = k from nI_clamp (by omega)]
  rw [eU] at hP hD
  have hP : va_P D vwCl [(m0, .inr (9, [.int i_thrown, .int (nI k), .ref a_row, .ref a_tape, .int i_taped, .int i_at, .int i_to, .int i_many, .ref a_number, .ref a_read, .int i_readMany, .ref a_readBits, .ref a_stands, .ref a_parted, .ref a_bitsWere, .ref a_stood, .ref a_chosen, .ref a_bestChosen, .int i_fewest, .ref a_often, .ref a_sorted, .int i_size, .ref a_risen, .ref a_risenWays])), (a_row, .inl (cJ, 64, .inr (.inl (vp_updL f k v))))] H := hP
  have hD : va_D A [(m0, .inr (9, [.int i_thrown, .int (nI k), .ref a_row, .ref a_tape, .int i_taped, .int i_at, .int i_to, .int i_many, .ref a_number, .ref a_read, .int i_readMany, .ref a_readBits, .ref a_stands, .ref a_parted, .ref a_bitsWere, .ref a_stood, .ref a_chosen, .ref a_bestChosen, .int i_fewest, .ref a_often, .ref a_sorted, .int i_size, .ref a_risen, .ref a_risenWays])), (a_row, .inl (cJ, 64, .inr (.inl (vp_updL f k v))))] := hD
  refine lv_aload_n hx hb dX9_enters_10 rfl (lv_at hl 0 rfl) ?_
  refine lv_dup hx hb dX9_enters_11 rfl ?_
  refine va_get (ci := 9) (v := .int (nI k)) (C := RX9) (T := TX9) (N := 24) hx hb hts hi9 hown hK hP 0 rfl rfl 1 (by decide) fl11 (fun _ h9 => h9) rfl dX9_enters_12 ?_
  refine lv_iconst (v := 1) hx hb dX9_enters_15 (by decide +kernel) ?_
  refine lv_iadd hx hb dX9_enters_16 ?_
  refine my_eqi (y := nI (k + 1)) (my_addN k 1) ?_
  refine va_put (ci := 9) (v := .int (nI (k + 1))) (ty := (.int)) (C := RX9) (T := TX9) (N := 24) hx hb hts hi9 tyX9 tyX9_ok nmX9 hown hK hP hD hS 0 rfl rfl 1 (by decide) fl11 (fun _ h9 => h9) rfl (by decide +kernel) rfl rfl (Nat.le_of_ble_eq_true rfl) dX9_enters_17 (fun H locs hP hD hS => ?_)
  have hP : va_P D vwCl [(m0, .inr (9, [.int i_thrown, .int (nI (k + 1)), .ref a_row, .ref a_tape, .int i_taped, .int i_at, .int i_to, .int i_many, .ref a_number, .ref a_read, .int i_readMany, .ref a_readBits, .ref a_stands, .ref a_parted, .ref a_bitsWere, .ref a_stood, .ref a_chosen, .ref a_bestChosen, .int i_fewest, .ref a_often, .ref a_sorted, .int i_size, .ref a_risen, .ref a_risenWays])), (a_row, .inl (cJ, 64, .inr (.inl (vp_updL f k v))))] H := hP
  have hD : va_D A [(m0, .inr (9, [.int i_thrown, .int (nI (k + 1)), .ref a_row, .ref a_tape, .int i_taped, .int i_at, .int i_to, .int i_many, .ref a_number, .ref a_read, .int i_readMany, .ref a_readBits, .ref a_stands, .ref a_parted, .ref a_bitsWere, .ref a_stood, .ref a_chosen, .ref a_bestChosen, .int i_fewest, .ref a_often, .ref a_sorted, .int i_size, .ref a_risen, .ref a_risenWays])), (a_row, .inl (cJ, 64, .inr (.inl (vp_updL f k v))))] := hD
  exact my_retV hx hb hr hlocks hK hS [(m0, .inr (9, [.int i_thrown, .int (nI (k + 1)), .ref a_row, .ref a_tape, .int i_taped, .int i_at, .int i_to, .int i_many, .ref a_number, .ref a_read, .int i_readMany, .ref a_readBits, .ref a_stands, .ref a_parted, .ref a_bitsWere, .ref a_stood, .ref a_chosen, .ref a_bestChosen, .int i_fewest, .ref a_often, .ref a_sorted, .int i_size, .ref a_risen, .ref a_risenWays])), (a_row, .inl (cJ, 64, .inr (.inl (vp_updL f k v))))] (hP.sub [0, 1] rfl) (hD.sub [0, 1] (by decide) rfl) (⟨(vp_updL f k v), rfl⟩) dX9_enters_20
set_option maxHeartbeats 4000000 in
set_option maxRecDepth 100000 in
theorem k0_X9_reads (l : Launch) (D : va_G) (cI cJ : ClassId) (m0 : Nat) (a_row : Nat) (a_tape : Nat) (a_number : Nat) (a_read : Nat) (a_readBits : Nat) (a_stands : Nat) (a_parted : Nat) (a_bitsWere : Nat) (a_stood : Nat) (a_chosen : Nat) (a_bestChosen : Nat) (a_often : Nat) (a_sorted : Nat) (a_risen : Nat) (a_risenWays : Nat) (i_thrown : Int32) (i_told : Int32) (i_at : Int32) (i_to : Int32) (i_many : Int32) (i_readMany : Int32) (i_fewest : Int32) (i_size : Int32) : ctV l yX9_reads wsX9_reads ({ frames := 0, cells := 0, slots := 0, locals := 0 } : Room) D (tyIJ cI cJ) [.ref m0] [(m0, .inr (9, [.int i_thrown, .int i_told, .ref a_row, .ref a_tape, .int 0, .int i_at, .int i_to, .int i_many, .ref a_number, .ref a_read, .int i_readMany, .ref a_readBits, .ref a_stands, .ref a_parted, .ref a_bitsWere, .ref a_stood, .ref a_chosen, .ref a_bestChosen, .int i_fewest, .ref a_often, .ref a_sorted, .int i_size, .ref a_risen, .ref a_risenWays]))] (fun (u : va_W) => u = [(m0, .inr (9, [.int i_thrown, .int i_told, .ref a_row, .ref a_tape, .int 0, .int 0, .int 0, .int i_many, .ref a_number, .ref a_read, .int i_readMany, .ref a_readBits, .ref a_stands, .ref a_parted, .ref a_bitsWere, .ref a_stood, .ref a_chosen, .ref a_bestChosen, .int i_fewest, .ref a_often, .ref a_sorted, .int i_size, .ref a_risen, .ref a_risenWays]))]) := by
  refine ctV.of (cc := cX9_reads) (maxL := 1) (ret := none) (by decide) rfl (Nat.le_of_ble_eq_true rfl) ?_
  intro p e s m below meth c ls A hx hb hr hts hown hml hlocks hname hA hK hN hP hD hS hl
  have hl : lv_has ls 1 [(0, .ref m0)] := hl
  have hown : s.vm.findClass RX9 = some m.cls := hown
  have hi9 : ∀ w ∈ u_ws RX9 TX9 24, w ∈ wsX9_reads := by decide +kernel
  have fl14 := hts (.fieldLink RX9 14 "PlaneColumnModel" "taped" "I") (by decide +kernel)
  have fl25 := hts (.fieldLink RX9 25 "PlaneColumnModel" "to" "I") (by decide +kernel)
  have fl28 := hts (.fieldLink RX9 28 "PlaneColumnModel" "at" "I") (by decide +kernel)
  refine lv_aload_n hx hb dX9_reads_0 rfl (lv_at hl 0 rfl) ?_
  refine lv_aload_n hx hb dX9_reads_1 rfl (lv_at hl 0 rfl) ?_
  refine va_get (ci := 9) (v := .int 0) (C := RX9) (T := TX9) (N := 24) hx hb hts hi9 hown hK hP 0 rfl rfl 4 (by decide) fl14 (fun _ h9 => h9) rfl dX9_reads_2 ?_
  refine va_put (ci := 9) (v := .int 0) (ty := (.int)) (C := RX9) (T := TX9) (N := 24) hx hb hts hi9 tyX9 tyX9_ok nmX9 hown hK hP hD hS 0 rfl rfl 6 (by decide) fl25 (fun _ h9 => h9) rfl (by decide +kernel) rfl rfl (Nat.le_of_ble_eq_true rfl) dX9_reads_5 (fun H locs hP hD hS => ?_)
  have hP : va_P D vwCl [(m0, .inr (9, [.int i_thrown, .int i_told, .ref a_row, .ref a_tape, .int 0, .int i_at, .int 0, .int i_many, .ref a_number, .ref a_read, .int i_readMany, .ref a_readBits, .ref a_stands, .ref a_parted, .ref a_bitsWere, .ref a_stood, .ref a_chosen, .ref a_bestChosen, .int i_fewest, .ref a_often, .ref a_sorted, .int i_size, .ref a_risen, .ref a_risenWays]))] H := hP
  have hD : va_D A [(m0, .inr (9, [.int i_thrown, .int i_told, .ref a_row, .ref a_tape, .int 0, .int i_at, .int 0, .int i_many, .ref a_number, .ref a_read, .int i_readMany, .ref a_readBits, .ref a_stands, .ref a_parted, .ref a_bitsWere, .ref a_stood, .ref a_chosen, .ref a_bestChosen, .int i_fewest, .ref a_often, .ref a_sorted, .int i_size, .ref a_risen, .ref a_risenWays]))] := hD
  refine lv_aload_n hx hb dX9_reads_8 rfl (lv_at hl 0 rfl) ?_
  refine lv_iconst (v := 0) hx hb dX9_reads_9 (by decide +kernel) ?_
  refine va_put (ci := 9) (v := .int 0) (ty := (.int)) (C := RX9) (T := TX9) (N := 24) hx hb hts hi9 tyX9 tyX9_ok nmX9 hown hK hP hD hS 0 rfl rfl 4 (by decide) fl14 (fun _ h9 => h9) rfl (by decide +kernel) rfl rfl (Nat.le_of_ble_eq_true rfl) dX9_reads_10 (fun H locs hP hD hS => ?_)
  have hP : va_P D vwCl [(m0, .inr (9, [.int i_thrown, .int i_told, .ref a_row, .ref a_tape, .int 0, .int i_at, .int 0, .int i_many, .ref a_number, .ref a_read, .int i_readMany, .ref a_readBits, .ref a_stands, .ref a_parted, .ref a_bitsWere, .ref a_stood, .ref a_chosen, .ref a_bestChosen, .int i_fewest, .ref a_often, .ref a_sorted, .int i_size, .ref a_risen, .ref a_risenWays]))] H := hP
  have hD : va_D A [(m0, .inr (9, [.int i_thrown, .int i_told, .ref a_row, .ref a_tape, .int 0, .int i_at, .int 0, .int i_many, .ref a_number, .ref a_read, .int i_readMany, .ref a_readBits, .ref a_stands, .ref a_parted, .ref a_bitsWere, .ref a_stood, .ref a_chosen, .ref a_bestChosen, .int i_fewest, .ref a_often, .ref a_sorted, .int i_size, .ref a_risen, .ref a_risenWays]))] := hD
  refine lv_aload_n hx hb dX9_reads_13 rfl (lv_at hl 0 rfl) ?_
  refine lv_iconst (v := 0) hx hb dX9_reads_14 (by decide +kernel) ?_
  refine va_put (ci := 9) (v := .int 0) (ty := (.int)) (C := RX9) (T := TX9) (N := 24) hx hb hts hi9 tyX9 tyX9_ok nmX9 hown hK hP hD hS 0 rfl rfl 5 (by decide) fl28 (fun _ h9 => h9) rfl (by decide +kernel) rfl rfl (Nat.le_of_ble_eq_true rfl) dX9_reads_15 (fun H locs hP hD hS => ?_)
  have hP : va_P D vwCl [(m0, .inr (9, [.int i_thrown, .int i_told, .ref a_row, .ref a_tape, .int 0, .int 0, .int 0, .int i_many, .ref a_number, .ref a_read, .int i_readMany, .ref a_readBits, .ref a_stands, .ref a_parted, .ref a_bitsWere, .ref a_stood, .ref a_chosen, .ref a_bestChosen, .int i_fewest, .ref a_often, .ref a_sorted, .int i_size, .ref a_risen, .ref a_risenWays]))] H := hP
  have hD : va_D A [(m0, .inr (9, [.int i_thrown, .int i_told, .ref a_row, .ref a_tape, .int 0, .int 0, .int 0, .int i_many, .ref a_number, .ref a_read, .int i_readMany, .ref a_readBits, .ref a_stands, .ref a_parted, .ref a_bitsWere, .ref a_stood, .ref a_chosen, .ref a_bestChosen, .int i_fewest, .ref a_often, .ref a_sorted, .int i_size, .ref a_risen, .ref a_risenWays]))] := hD
  exact my_retV hx hb hr hlocks hK hS [(m0, .inr (9, [.int i_thrown, .int i_told, .ref a_row, .ref a_tape, .int 0, .int 0, .int 0, .int i_many, .ref a_number, .ref a_read, .int i_readMany, .ref a_readBits, .ref a_stands, .ref a_parted, .ref a_bitsWere, .ref a_stood, .ref a_chosen, .ref a_bestChosen, .int i_fewest, .ref a_often, .ref a_sorted, .int i_size, .ref a_risen, .ref a_risenWays]))] (hP.sub [0] rfl) (hD.sub [0] (by decide) rfl) (rfl) dX9_reads_18
set_option maxHeartbeats 4000000 in
set_option maxRecDepth 100000 in
theorem k0_X9_takes (l : Launch) (D : va_G) (cI cJ : ClassId) (m0 : Nat) (a_row : Nat) (a_tape : Nat) (a_number : Nat) (a_read : Nat) (a_readBits : Nat) (a_stands : Nat) (a_parted : Nat) (a_bitsWere : Nat) (a_stood : Nat) (a_chosen : Nat) (a_bestChosen : Nat) (a_often : Nat) (a_sorted : Nat) (a_risen : Nat) (a_risenWays : Nat) (i_thrown : Int32) (i_told : Int32) (i_taped : Int32) (i_many : Int32) (i_readMany : Int32) (i_fewest : Int32) (i_size : Int32) (bo9 : Int32) : ctI l yX9_takes wsX9_takes ({ frames := 1, cells := 0, slots := 0, locals := 60 } : Room) D (tyIJ cI cJ) [.ref m0, .int bo9] [(m0, .inr (9, [.int i_thrown, .int i_told, .ref a_row, .ref a_tape, .int i_taped, .int 0, .int 0, .int i_many, .ref a_number, .ref a_read, .int i_readMany, .ref a_readBits, .ref a_stands, .ref a_parted, .ref a_bitsWere, .ref a_stood, .ref a_chosen, .ref a_bestChosen, .int i_fewest, .ref a_often, .ref a_sorted, .int i_size, .ref a_risen, .ref a_risenWays]))] (fun (r : Int32) (u : va_W) => u = [(m0, .inr (9, [.int i_thrown, .int i_told, .ref a_row, .ref a_tape, .int i_taped, .int 0, .int 0, .int i_many, .ref a_number, .ref a_read, .int i_readMany, .ref a_readBits, .ref a_stands, .ref a_parted, .ref a_bitsWere, .ref a_stood, .ref a_chosen, .ref a_bestChosen, .int i_fewest, .ref a_often, .ref a_sorted, .int i_size, .ref a_risen, .ref a_risenWays]))] ∧ r = 0) := by
  refine ctI.of (cc := cX9_takes) (maxL := 3) (ret := (some .boolean)) (by decide) rfl (Nat.le_of_ble_eq_true rfl) ?_
  intro p e s m below meth c ls A hx hb hr hts hown hml hlocks hname hA hK hN hP hD hS hl
  have hl : lv_has ls 3 [(0, .ref m0), (1, .int bo9)] := hl
  have hown : s.vm.findClass RX9 = some m.cls := hown
  have hi9 : ∀ w ∈ u_ws RX9 TX9 24, w ∈ wsX9_takes := by decide +kernel
  have fl25 := hts (.fieldLink RX9 25 "PlaneColumnModel" "to" "I") (by decide +kernel)
  have fl28 := hts (.fieldLink RX9 28 "PlaneColumnModel" "at" "I") (by decide +kernel)
  refine lv_aload_n hx hb dX9_takes_0 rfl (lv_at hl 0 rfl) ?_
  refine va_get (ci := 9) (v := .int 0) (C := RX9) (T := TX9) (N := 24) hx hb hts hi9 hown hK hP 0 rfl rfl 5 (by decide) fl28 (fun _ h9 => h9) rfl dX9_takes_1 ?_
  refine lv_aload_n hx hb dX9_takes_4 rfl (lv_at hl 0 rfl) ?_
  refine va_get (ci := 9) (v := .int 0) (C := RX9) (T := TX9) (N := 24) hx hb hts hi9 hown hK hP 0 rfl rfl 6 (by decide) fl25 (fun _ h9 => h9) rfl dX9_takes_5 ?_
  refine lv_icmp_ge (tgt := 28) hx hb dX9_takes_8 (by decide) (fun c8 => ?_) (fun c8 => ?_)
  ·
    refine lv_iconst (v := 0) hx hb dX9_takes_28 (by decide +kernel) ?_
    refine lv_istore_n (lv' := [(2, .int 0), (0, .ref m0), (1, .int bo9)]) hx hb dX9_takes_29 rfl hl (by decide) rfl (fun ls hl => ?_)
    refine lv_aload_n hx hb dX9_takes_30 rfl (lv_at hl 1 rfl) ?_
    refine lv_dup hx hb dX9_takes_31 rfl ?_
    refine va_get (ci := 9) (v := .int 0) (C := RX9) (T := TX9) (N := 24) hx hb hts hi9 hown hK hP 0 rfl rfl 5 (by decide) fl28 (fun _ h9 => h9) rfl dX9_takes_32 ?_
    refine lv_iload_n hx hb dX9_takes_35 rfl (lv_at hl 0 rfl) ?_
    refine my_gpI (my_pS (As := [.int 0]) (rest := [.int 0, .ref m0]) ⟨hx, hb, hml, hown, hts⟩ (va_cwS 1 hts gX9_takes_X9_flag rfl rfl rfl (by decide +kernel) ⟨Nat.le_of_ble_eq_true rfl, Nat.le_of_ble_eq_true rfl⟩) hN hK hP [] rfl rfl hl.1 rfl (Nat.le_of_ble_eq_true rfl) dX9_takes_36 ⟨Nat.le_of_ble_eq_true rfl, Nat.le_of_ble_eq_true rfl⟩  (k0_X9_flag l D cI cJ )) (fun r hp => ?_)
    obtain rfl := hp
    refine lv_iadd hx hb dX9_takes_39 ?_
    refine my_eqi (y := 0) (by decide +kernel) ?_
    refine va_put (ci := 9) (v := .int 0) (ty := (.int)) (C := RX9) (T := TX9) (N := 24) hx hb hts hi9 tyX9 tyX9_ok nmX9 hown hK hP hD hS 0 rfl rfl 5 (by decide) fl28 (fun _ h9 => h9) rfl (by decide +kernel) rfl rfl (Nat.le_of_ble_eq_true rfl) dX9_takes_40 (fun H locs hP hD hS => ?_)
    have hP : va_P D vwCl [(m0, .inr (9, [.int i_thrown, .int i_told, .ref a_row, .ref a_tape, .int i_taped, .int 0, .int 0, .int i_many, .ref a_number, .ref a_read, .int i_readMany, .ref a_readBits, .ref a_stands, .ref a_parted, .ref a_bitsWere, .ref a_stood, .ref a_chosen, .ref a_bestChosen, .int i_fewest, .ref a_often, .ref a_sorted, .int i_size, .ref a_risen, .ref a_risenWays]))] H := hP
    have hD : va_D A [(m0, .inr (9, [.int i_thrown, .int i_told, .ref a_row, .ref a_tape, .int i_taped, .int 0, .int 0, .int i_many, .ref a_number, .ref a_read, .int i_readMany, .ref a_readBits, .ref a_stands, .ref a_parted, .ref a_bitsWere, .ref a_stood, .ref a_chosen, .ref a_bestChosen, .int i_fewest, .ref a_often, .ref a_sorted, .int i_size, .ref a_risen, .ref a_risenWays]))] := hD
    refine lv_iload_n hx hb dX9_takes_43 rfl (lv_at hl 0 rfl) ?_
    exact my_retZ hx hb hr hlocks (by decide +kernel) hK hS [(m0, .inr (9, [.int i_thrown, .int i_told, .ref a_row, .ref a_tape, .int i_taped, .int 0, .int 0, .int i_many, .ref a_number, .ref a_read, .int i_readMany, .ref a_readBits, .ref a_stands, .ref a_parted, .ref a_bitsWere, .ref a_stood, .ref a_chosen, .ref a_bestChosen, .int i_fewest, .ref a_often, .ref a_sorted, .int i_size, .ref a_risen, .ref a_risenWays]))] (hP.sub [0] rfl) (hD.sub [0] (by decide) rfl) (⟨rfl, rfl⟩) dX9_takes_44
  ·
    exact absurd c8 (by decide +kernel)
set_option maxHeartbeats 4000000 in
set_option maxRecDepth 100000 in
theorem k0_X9_becomesRead (l : Launch) (D : va_G) (cI cJ : ClassId) (m0 : Nat) (a_row : Nat) (a_tape : Nat) (a_number : Nat) (a_read : Nat) (a_readBits : Nat) (a_stands : Nat) (a_parted : Nat) (a_bitsWere : Nat) (a_stood : Nat) (a_chosen : Nat) (a_bestChosen : Nat) (a_often : Nat) (a_sorted : Nat) (a_risen : Nat) (a_risenWays : Nat) (i_thrown : Int32) (i_told : Int32) (i_taped : Int32) (i_at : Int32) (i_to : Int32) (i_many : Int32) (i_fewest : Int32) (i_size : Int32) : ctV l yX9_becomesRead wsX9_becomesRead ({ frames := 0, cells := 0, slots := 0, locals := 0 } : Room) D (tyIJ cI cJ) [.ref m0] [(m0, .inr (9, [.int i_thrown, .int i_told, .ref a_row, .ref a_tape, .int i_taped, .int i_at, .int i_to, .int i_many, .ref a_number, .ref a_read, .int 0, .ref a_readBits, .ref a_stands, .ref a_parted, .ref a_bitsWere, .ref a_stood, .ref a_chosen, .ref a_bestChosen, .int i_fewest, .ref a_often, .ref a_sorted, .int i_size, .ref a_risen, .ref a_risenWays]))] (fun (u : va_W) => u = [(m0, .inr (9, [.int i_thrown, .int i_told, .ref a_row, .ref a_tape, .int i_taped, .int i_at, .int i_to, .int 0, .ref a_number, .ref a_read, .int 0, .ref a_readBits, .ref a_stands, .ref a_parted, .ref a_bitsWere, .ref a_stood, .ref a_chosen, .ref a_bestChosen, .int i_fewest, .ref a_often, .ref a_sorted, .int i_size, .ref a_risen, .ref a_risenWays]))]) := by
  refine ctV.of (cc := cX9_becomesRead) (maxL := 2) (ret := none) (by decide) rfl (Nat.le_of_ble_eq_true rfl) ?_
  intro p e s m below meth c ls A hx hb hr hts hown hml hlocks hname hA hK hN hP hD hS hl
  have hl : lv_has ls 2 [(0, .ref m0)] := hl
  have hown : s.vm.findClass RX9 = some m.cls := hown
  have hi9 : ∀ w ∈ u_ws RX9 TX9 24, w ∈ wsX9_becomesRead := by decide +kernel
  have fl88 := hts (.fieldLink RX9 88 "PlaneColumnModel" "many" "I") (by decide +kernel)
  have fl93 := hts (.fieldLink RX9 93 "PlaneColumnModel" "readMany" "I") (by decide +kernel)
  refine lv_aload_n hx hb dX9_becomesRead_0 rfl (lv_at hl 0 rfl) ?_
  refine lv_aload_n hx hb dX9_becomesRead_1 rfl (lv_at hl 0 rfl) ?_
  refine va_get (ci := 9) (v := .int 0) (C := RX9) (T := TX9) (N := 24) hx hb hts hi9 hown hK hP 0 rfl rfl 10 (by decide) fl93 (fun _ h9 => h9) rfl dX9_becomesRead_2 ?_
  refine va_put (ci := 9) (v := .int 0) (ty := (.int)) (C := RX9) (T := TX9) (N := 24) hx hb hts hi9 tyX9 tyX9_ok nmX9 hown hK hP hD hS 0 rfl rfl 7 (by decide) fl88 (fun _ h9 => h9) rfl (by decide +kernel) rfl rfl (Nat.le_of_ble_eq_true rfl) dX9_becomesRead_5 (fun H locs hP hD hS => ?_)
  have hP : va_P D vwCl [(m0, .inr (9, [.int i_thrown, .int i_told, .ref a_row, .ref a_tape, .int i_taped, .int i_at, .int i_to, .int 0, .ref a_number, .ref a_read, .int 0, .ref a_readBits, .ref a_stands, .ref a_parted, .ref a_bitsWere, .ref a_stood, .ref a_chosen, .ref a_bestChosen, .int i_fewest, .ref a_often, .ref a_sorted, .int i_size, .ref a_risen, .ref a_risenWays]))] H := hP
  have hD : va_D A [(m0, .inr (9, [.int i_thrown, .int i_told, .ref a_row, .ref a_tape, .int i_taped, .int i_at, .int i_to, .int 0, .ref a_number, .ref a_read, .int 0, .ref a_readBits, .ref a_stands, .ref a_parted, .ref a_bitsWere, .ref a_stood, .ref a_chosen, .ref a_bestChosen, .int i_fewest, .ref a_often, .ref a_sorted, .int i_size, .ref a_risen, .ref a_risenWays]))] := hD
  refine lv_iconst (v := 0) hx hb dX9_becomesRead_8 (by decide +kernel) ?_
  refine lv_istore_n (lv' := [(1, .int 0), (0, .ref m0)]) hx hb dX9_becomesRead_9 rfl hl (by decide) rfl (fun ls hl => ?_)
  refine lv_iload_n hx hb dX9_becomesRead_10 rfl (lv_at hl 0 rfl) ?_
  refine lv_aload_n hx hb dX9_becomesRead_11 rfl (lv_at hl 1 rfl) ?_
  refine va_get (ci := 9) (v := .int 0) (C := RX9) (T := TX9) (N := 24) hx hb hts hi9 hown hK hP 0 rfl rfl 7 (by decide) fl88 (fun _ h9 => h9) rfl dX9_becomesRead_12 ?_
  refine lv_icmp_ge (tgt := 36) hx hb dX9_becomesRead_15 (by decide) (fun c15 => ?_) (fun c15 => ?_)
  ·
    exact my_retV hx hb hr hlocks hK hS [(m0, .inr (9, [.int i_thrown, .int i_told, .ref a_row, .ref a_tape, .int i_taped, .int i_at, .int i_to, .int 0, .ref a_number, .ref a_read, .int 0, .ref a_readBits, .ref a_stands, .ref a_parted, .ref a_bitsWere, .ref a_stood, .ref a_chosen, .ref a_bestChosen, .int i_fewest, .ref a_often, .ref a_sorted, .int i_size, .ref a_risen, .ref a_risenWays]))] (hP.sub [0] rfl) (hD.sub [0] (by decide) rfl) (rfl) dX9_becomesRead_36
  ·
    exact absurd c15 (by decide +kernel)
set_option maxHeartbeats 4000000 in
set_option maxRecDepth 100000 in
theorem k0_X9_readsRow (l : Launch) (D : va_G) (cI cJ : ClassId) (m0 : Nat) (a_row : Nat) (a_tape : Nat) (a_number : Nat) (a_read : Nat) (a_readBits : Nat) (a_stands : Nat) (a_parted : Nat) (a_bitsWere : Nat) (a_stood : Nat) (a_chosen : Nat) (a_bestChosen : Nat) (a_often : Nat) (a_sorted : Nat) (a_risen : Nat) (a_risenWays : Nat) (i_thrown : Int32) (i_told : Int32) (i_taped : Int32) (i_many : Int32) (i_fewest : Int32) (i_size : Int32) : ctI l yX9_readsRow wsX9_readsRow ({ frames := 2, cells := 0, slots := 0, locals := 120 } : Room) D (tyIJ cI cJ) [.ref m0, .int 0] [(m0, .inr (9, [.int i_thrown, .int i_told, .ref a_row, .ref a_tape, .int i_taped, .int 0, .int 0, .int i_many, .ref a_number, .ref a_read, .int 0, .ref a_readBits, .ref a_stands, .ref a_parted, .ref a_bitsWere, .ref a_stood, .ref a_chosen, .ref a_bestChosen, .int i_fewest, .ref a_often, .ref a_sorted, .int i_size, .ref a_risen, .ref a_risenWays]))] (fun (r : Int32) (u : va_W) => u = [(m0, .inr (9, [.int i_thrown, .int i_told, .ref a_row, .ref a_tape, .int i_taped, .int 0, .int 0, .int i_many, .ref a_number, .ref a_read, .int 0, .ref a_readBits, .ref a_stands, .ref a_parted, .ref a_bitsWere, .ref a_stood, .ref a_chosen, .ref a_bestChosen, .int i_fewest, .ref a_often, .ref a_sorted, .int i_size, .ref a_risen, .ref a_risenWays]))] ∧ r = 0) := by
  refine ctI.of (cc := cX9_readsRow) (maxL := 3) (ret := (some .boolean)) (by decide) rfl (Nat.le_of_ble_eq_true rfl) ?_
  intro p e s m below meth c ls A hx hb hr hts hown hml hlocks hname hA hK hN hP hD hS hl
  have hl : lv_has ls 3 [(0, .ref m0), (1, .int 0)] := hl
  have hown : s.vm.findClass RX9 = some m.cls := hown
  have hi9 : ∀ w ∈ u_ws RX9 TX9 24, w ∈ wsX9_readsRow := by decide +kernel
  have fl25 := hts (.fieldLink RX9 25 "PlaneColumnModel" "to" "I") (by decide +kernel)
  have fl28 := hts (.fieldLink RX9 28 "PlaneColumnModel" "at" "I") (by decide +kernel)
  have fl93 := hts (.fieldLink RX9 93 "PlaneColumnModel" "readMany" "I") (by decide +kernel)
  refine lv_iconst (v := 0) hx hb dX9_readsRow_0 (by decide +kernel) ?_
  refine lv_istore_n (lv' := [(2, .int 0), (0, .ref m0), (1, .int 0)]) hx hb dX9_readsRow_1 rfl hl (by decide) rfl (fun ls hl => ?_)
  refine lv_aload_n hx hb dX9_readsRow_2 rfl (lv_at hl 1 rfl) ?_
  refine va_get (ci := 9) (v := .int 0) (C := RX9) (T := TX9) (N := 24) hx hb hts hi9 hown hK hP 0 rfl rfl 5 (by decide) fl28 (fun _ h9 => h9) rfl dX9_readsRow_3 ?_
  refine lv_aload_n hx hb dX9_readsRow_6 rfl (lv_at hl 1 rfl) ?_
  refine va_get (ci := 9) (v := .int 0) (C := RX9) (T := TX9) (N := 24) hx hb hts hi9 hown hK hP 0 rfl rfl 6 (by decide) fl25 (fun _ h9 => h9) rfl dX9_readsRow_7 ?_
  refine lv_icmp_ge (tgt := 97) hx hb dX9_readsRow_10 (by decide) (fun c10 => ?_) (fun c10 => ?_)
  ·
    refine lv_iload_n hx hb dX9_readsRow_97 rfl (lv_at hl 2 rfl) ?_
    refine lv_if_ne (tgt := 106) hx hb dX9_readsRow_98 (by decide) (fun c98 => ?_) (fun c98 => ?_)
    ·
      exact absurd c98 (by decide +kernel)
    ·
      refine lv_aload_n hx hb dX9_readsRow_101 rfl (lv_at hl 1 rfl) ?_
      refine lv_iload_n hx hb dX9_readsRow_102 rfl (lv_at hl 0 rfl) ?_
      refine va_put (ci := 9) (v := .int 0) (ty := (.int)) (C := RX9) (T := TX9) (N := 24) hx hb hts hi9 tyX9 tyX9_ok nmX9 hown hK hP hD hS 0 rfl rfl 10 (by decide) fl93 (fun _ h9 => h9) rfl (by decide +kernel) rfl rfl (Nat.le_of_ble_eq_true rfl) dX9_readsRow_103 (fun H locs hP hD hS => ?_)
      have hP : va_P D vwCl [(m0, .inr (9, [.int i_thrown, .int i_told, .ref a_row, .ref a_tape, .int i_taped, .int 0, .int 0, .int i_many, .ref a_number, .ref a_read, .int 0, .ref a_readBits, .ref a_stands, .ref a_parted, .ref a_bitsWere, .ref a_stood, .ref a_chosen, .ref a_bestChosen, .int i_fewest, .ref a_often, .ref a_sorted, .int i_size, .ref a_risen, .ref a_risenWays]))] H := hP
      have hD : va_D A [(m0, .inr (9, [.int i_thrown, .int i_told, .ref a_row, .ref a_tape, .int i_taped, .int 0, .int 0, .int i_many, .ref a_number, .ref a_read, .int 0, .ref a_readBits, .ref a_stands, .ref a_parted, .ref a_bitsWere, .ref a_stood, .ref a_chosen, .ref a_bestChosen, .int i_fewest, .ref a_often, .ref a_sorted, .int i_size, .ref a_risen, .ref a_risenWays]))] := hD
      refine lv_iload_n hx hb dX9_readsRow_106 rfl (lv_at hl 0 rfl) ?_
      refine lv_aload_n hx hb dX9_readsRow_107 rfl (lv_at hl 1 rfl) ?_
      refine va_get (ci := 9) (v := .int 0) (C := RX9) (T := TX9) (N := 24) hx hb hts hi9 hown hK hP 0 rfl rfl 10 (by decide) fl93 (fun _ h9 => h9) rfl dX9_readsRow_108 ?_
      refine lv_icmp_ne (tgt := 147) hx hb dX9_readsRow_111 (by decide) (fun c111 => ?_) (fun c111 => ?_)
      ·
        exact absurd c111 (by decide +kernel)
      ·
        refine lv_iload_n hx hb dX9_readsRow_114 rfl (lv_at hl 2 rfl) ?_
        refine lv_bipush (v := 7) hx hb dX9_readsRow_115 (by decide +kernel) ?_
        refine lv_icmp_ge (tgt := 132) hx hb dX9_readsRow_117 (by decide) (fun c117 => ?_) (fun c117 => ?_)
        ·
          exact absurd c117 (by decide +kernel)
        ·
          refine lv_aload_n hx hb dX9_readsRow_120 rfl (lv_at hl 1 rfl) ?_
          refine lv_bipush (v := 47) hx hb dX9_readsRow_121 (by decide +kernel) ?_
          refine my_goI (wr := []) hP hD hS hA [0] [] rfl rfl (by decide) (by decide) (my_cV (As := [.int 47]) (rest := []) (ci := 9) (wc := [(m0, .inr (9, [.int i_thrown, .int i_told, .ref a_row, .ref a_tape, .int i_taped, .int 0, .int 0, .int i_many, .ref a_number, .ref a_read, .int 0, .ref a_readBits, .ref a_stands, .ref a_parted, .ref a_bitsWere, .ref a_stood, .ref a_chosen, .ref a_bestChosen, .int i_fewest, .ref a_often, .ref a_sorted, .int i_size, .ref a_risen, .ref a_risenWays]))]) ⟨hx, hb, hml, hown, hts⟩ (cwV 1 hts gX9_readsRow_X9_takes rfl rfl rfl (by decide +kernel) ⟨Nat.le_of_ble_eq_true rfl, Nat.le_of_ble_eq_true rfl⟩) hN hK hP hD [0] rfl (by decide) rfl 0 rfl rfl rfl rfl hl.1 rfl (Nat.le_of_ble_eq_true rfl) dX9_readsRow_123 ⟨Nat.le_of_ble_eq_true rfl, Nat.le_of_ble_eq_true rfl⟩  ((k0_X9_takes l D cI cJ m0 a_row a_tape a_number a_read a_readBits a_stands a_parted a_bitsWere a_stood a_chosen a_bestChosen a_often a_sorted a_risen a_risenWays i_thrown i_told i_taped i_many (0 : Int32) i_fewest i_size (47 : Int32)) _)) (fun r u H locs hp hP hD hS => ?_)
          obtain ⟨rfl, rfl⟩ := hp
          have hP : va_P D vwCl [(m0, .inr (9, [.int i_thrown, .int i_told, .ref a_row, .ref a_tape, .int i_taped, .int 0, .int 0, .int i_many, .ref a_number, .ref a_read, .int 0, .ref a_readBits, .ref a_stands, .ref a_parted, .ref a_bitsWere, .ref a_stood, .ref a_chosen, .ref a_bestChosen, .int i_fewest, .ref a_often, .ref a_sorted, .int i_size, .ref a_risen, .ref a_risenWays]))] H := hP
          have hD : va_D A [(m0, .inr (9, [.int i_thrown, .int i_told, .ref a_row, .ref a_tape, .int i_taped, .int 0, .int 0, .int i_many, .ref a_number, .ref a_read, .int 0, .ref a_readBits, .ref a_stands, .ref a_parted, .ref a_bitsWere, .ref a_stood, .ref a_chosen, .ref a_bestChosen, .int i_fewest, .ref a_often, .ref a_sorted, .int i_size, .ref a_risen, .ref a_risenWays]))] := hD
          refine lv_if_eq (tgt := 147) hx hb dX9_readsRow_126 (by decide) (fun c126 => ?_) (fun c126 => ?_)
          ·
            refine lv_iconst (v := 0) hx hb dX9_readsRow_147 (by decide +kernel) ?_
            exact my_retZ hx hb hr hlocks (by decide +kernel) hK hS [(m0, .inr (9, [.int i_thrown, .int i_told, .ref a_row, .ref a_tape, .int i_taped, .int 0, .int 0, .int i_many, .ref a_number, .ref a_read, .int 0, .ref a_readBits, .ref a_stands, .ref a_parted, .ref a_bitsWere, .ref a_stood, .ref a_chosen, .ref a_bestChosen, .int i_fewest, .ref a_often, .ref a_sorted, .int i_size, .ref a_risen, .ref a_risenWays]))] (hP.sub [0] rfl) (hD.sub [0] (by decide) rfl) (⟨rfl, rfl⟩) dX9_readsRow_148
          ·
            exact absurd c126 (by decide +kernel)
  ·
    exact absurd c10 (by decide +kernel)
set_option maxHeartbeats 4000000 in
set_option maxRecDepth 100000 in
theorem k0_X9_begins (l : Launch) (D : va_G) (cI cJ : ClassId) (m0 : Nat) (a_row : Nat) (a_tape : Nat) (a_number : Nat) (a_read : Nat) (a_readBits : Nat) (a_stands : Nat) (a_parted : Nat) (a_bitsWere : Nat) (a_stood : Nat) (a_chosen : Nat) (a_bestChosen : Nat) (a_often : Nat) (a_sorted : Nat) (a_risen : Nat) (a_risenWays : Nat) (i_thrown : Int32) (i_told : Int32) (i_taped : Int32) (i_at : Int32) (i_to : Int32) (i_readMany : Int32) (i_fewest : Int32) (i_size : Int32) : ctV l yX9_begins wsX9_begins ({ frames := 0, cells := 0, slots := 0, locals := 0 } : Room) D (tyIJ cI cJ) [.ref m0] [(m0, .inr (9, [.int i_thrown, .int i_told, .ref a_row, .ref a_tape, .int i_taped, .int i_at, .int i_to, .int 0, .ref a_number, .ref a_read, .int i_readMany, .ref a_readBits, .ref a_stands, .ref a_parted, .ref a_bitsWere, .ref a_stood, .ref a_chosen, .ref a_bestChosen, .int i_fewest, .ref a_often, .ref a_sorted, .int i_size, .ref a_risen, .ref a_risenWays]))] (fun (u : va_W) => u = [(m0, .inr (9, [.int i_thrown, .int i_told, .ref a_row, .ref a_tape, .int i_taped, .int i_at, .int i_to, .int 0, .ref a_number, .ref a_read, .int i_readMany, .ref a_readBits, .ref a_stands, .ref a_parted, .ref a_bitsWere, .ref a_stood, .ref a_chosen, .ref a_bestChosen, .int i_fewest, .ref a_often, .ref a_sorted, .int i_size, .ref a_risen, .ref a_risenWays]))]) := by
  refine ctV.of (cc := cX9_begins) (maxL := 2) (ret := none) (by decide) rfl (Nat.le_of_ble_eq_true rfl) ?_
  intro p e s m below meth c ls A hx hb hr hts hown hml hlocks hname hA hK hN hP hD hS hl
  have hl : lv_has ls 2 [(0, .ref m0)] := hl
  have hown : s.vm.findClass RX9 = some m.cls := hown
  have hi9 : ∀ w ∈ u_ws RX9 TX9 24, w ∈ wsX9_begins := by decide +kernel
  have fl88 := hts (.fieldLink RX9 88 "PlaneColumnModel" "many" "I") (by decide +kernel)
  refine lv_iconst (v := 0) hx hb dX9_begins_0 (by decide +kernel) ?_
  refine lv_istore_n (lv' := [(1, .int 0), (0, .ref m0)]) hx hb dX9_begins_1 rfl hl (by decide) rfl (fun ls hl => ?_)
  refine lv_iload_n hx hb dX9_begins_2 rfl (lv_at hl 0 rfl) ?_
  refine lv_aload_n hx hb dX9_begins_3 rfl (lv_at hl 1 rfl) ?_
  refine va_get (ci := 9) (v := .int 0) (C := RX9) (T := TX9) (N := 24) hx hb hts hi9 hown hK hP 0 rfl rfl 7 (by decide) fl88 (fun _ h9 => h9) rfl dX9_begins_4 ?_
  refine lv_icmp_ge (tgt := 23) hx hb dX9_begins_7 (by decide) (fun c7 => ?_) (fun c7 => ?_)
  ·
    exact my_retV hx hb hr hlocks hK hS [(m0, .inr (9, [.int i_thrown, .int i_told, .ref a_row, .ref a_tape, .int i_taped, .int i_at, .int i_to, .int 0, .ref a_number, .ref a_read, .int i_readMany, .ref a_readBits, .ref a_stands, .ref a_parted, .ref a_bitsWere, .ref a_stood, .ref a_chosen, .ref a_bestChosen, .int i_fewest, .ref a_often, .ref a_sorted, .int i_size, .ref a_risen, .ref a_risenWays]))] (hP.sub [0] rfl) (hD.sub [0] (by decide) rfl) (rfl) dX9_begins_23
  ·
    exact absurd c7 (by decide +kernel)
set_option maxHeartbeats 4000000 in
set_option maxRecDepth 100000 in
theorem k0_X9_parts (l : Launch) (D : va_G) (cI cJ : ClassId) (m0 : Nat) (a_row : Nat) (a_tape : Nat) (a_number : Nat) (a_read : Nat) (a_readBits : Nat) (a_stands : Nat) (a_parted : Nat) (a_bitsWere : Nat) (a_stood : Nat) (a_chosen : Nat) (a_bestChosen : Nat) (a_often : Nat) (a_sorted : Nat) (a_risen : Nat) (a_risenWays : Nat) (i_thrown : Int32) (i_told : Int32) (i_taped : Int32) (i_at : Int32) (i_to : Int32) (i_readMany : Int32) (i_fewest : Int32) (i_size : Int32) (b9 : Int32) : ctV l yX9_parts wsX9_parts ({ frames := 0, cells := 0, slots := 0, locals := 0 } : Room) D (tyIJ cI cJ) [.ref m0, .int b9] [(m0, .inr (9, [.int i_thrown, .int i_told, .ref a_row, .ref a_tape, .int i_taped, .int i_at, .int i_to, .int 0, .ref a_number, .ref a_read, .int i_readMany, .ref a_readBits, .ref a_stands, .ref a_parted, .ref a_bitsWere, .ref a_stood, .ref a_chosen, .ref a_bestChosen, .int i_fewest, .ref a_often, .ref a_sorted, .int i_size, .ref a_risen, .ref a_risenWays]))] (fun (u : va_W) => u = [(m0, .inr (9, [.int i_thrown, .int i_told, .ref a_row, .ref a_tape, .int i_taped, .int i_at, .int i_to, .int 0, .ref a_number, .ref a_read, .int i_readMany, .ref a_readBits, .ref a_stands, .ref a_parted, .ref a_bitsWere, .ref a_stood, .ref a_chosen, .ref a_bestChosen, .int i_fewest, .ref a_often, .ref a_sorted, .int i_size, .ref a_risen, .ref a_risenWays]))]) := by
  refine ctV.of (cc := cX9_parts) (maxL := 5) (ret := none) (by decide) rfl (Nat.le_of_ble_eq_true rfl) ?_
  intro p e s m below meth c ls A hx hb hr hts hown hml hlocks hname hA hK hN hP hD hS hl
  have hl : lv_has ls 5 [(0, .ref m0), (1, .int b9)] := hl
  have hown : s.vm.findClass RX9 = some m.cls := hown
  have hi9 : ∀ w ∈ u_ws RX9 TX9 24, w ∈ wsX9_parts := by decide +kernel
  have fl88 := hts (.fieldLink RX9 88 "PlaneColumnModel" "many" "I") (by decide +kernel)
  refine lv_iconst (v := 0) hx hb dX9_parts_0 (by decide +kernel) ?_
  refine lv_istore_n (lv' := [(2, .int 0), (0, .ref m0), (1, .int b9)]) hx hb dX9_parts_1 rfl hl (by decide) rfl (fun ls hl => ?_)
  refine lv_iconst (v := 0) hx hb dX9_parts_2 (by decide +kernel) ?_
  refine lv_istore_n (lv' := [(3, .int 0), (2, .int 0), (0, .ref m0), (1, .int b9)]) hx hb dX9_parts_3 rfl hl (by decide) rfl (fun ls hl => ?_)
  refine lv_iload_n hx hb dX9_parts_4 rfl (lv_at hl 0 rfl) ?_
  refine lv_iconst (v := 2) hx hb dX9_parts_5 (by decide +kernel) ?_
  refine lv_icmp_ge (tgt := 69) hx hb dX9_parts_6 (by decide) (fun c6 => ?_) (fun c6 => ?_)
  ·
    exact absurd c6 (by decide +kernel)
  ·
    refine lv_iconst (v := 0) hx hb dX9_parts_9 (by decide +kernel) ?_
    refine lv_istore (lv' := [(4, .int 0), (3, .int 0), (2, .int 0), (0, .ref m0), (1, .int b9)]) hx hb dX9_parts_10 hl (by decide) rfl (fun ls hl => ?_)
    refine lv_iload hx hb dX9_parts_12 (lv_at hl 0 rfl) ?_
    refine lv_aload_n hx hb dX9_parts_14 rfl (lv_at hl 3 rfl) ?_
    refine va_get (ci := 9) (v := .int 0) (C := RX9) (T := TX9) (N := 24) hx hb hts hi9 hown hK hP 0 rfl rfl 7 (by decide) fl88 (fun _ h9 => h9) rfl dX9_parts_15 ?_
    refine lv_icmp_ge (tgt := 63) hx hb dX9_parts_18 (by decide) (fun c18 => ?_) (fun c18 => ?_)
    ·
      refine lv_iinc (v := 1) (lv' := [(3, .int 1), (4, .int 0), (2, .int 0), (0, .ref m0), (1, .int b9)]) hx hb dX9_parts_63 hl (k := 1) rfl (by decide +kernel) (by decide) rfl (fun ls hl => ?_)
      refine lv_goto (tgt := 4) hx hb dX9_parts_66 (by decide) ?_
      refine lv_iload_n hx hb dX9_parts_4 rfl (lv_at hl 0 rfl) ?_
      refine lv_iconst (v := 2) hx hb dX9_parts_5 (by decide +kernel) ?_
      refine lv_icmp_ge (tgt := 69) hx hb dX9_parts_6 (by decide) (fun c6 => ?_) (fun c6 => ?_)
      ·
        exact absurd c6 (by decide +kernel)
      ·
        refine lv_iconst (v := 0) hx hb dX9_parts_9 (by decide +kernel) ?_
        refine lv_istore (lv' := [(4, .int 0), (3, .int 1), (2, .int 0), (0, .ref m0), (1, .int b9)]) hx hb dX9_parts_10 hl (by decide) rfl (fun ls hl => ?_)
        refine lv_iload hx hb dX9_parts_12 (lv_at hl 0 rfl) ?_
        refine lv_aload_n hx hb dX9_parts_14 rfl (lv_at hl 3 rfl) ?_
        refine va_get (ci := 9) (v := .int 0) (C := RX9) (T := TX9) (N := 24) hx hb hts hi9 hown hK hP 0 rfl rfl 7 (by decide) fl88 (fun _ h9 => h9) rfl dX9_parts_15 ?_
        refine lv_icmp_ge (tgt := 63) hx hb dX9_parts_18 (by decide) (fun c18 => ?_) (fun c18 => ?_)
        ·
          refine lv_iinc (v := 2) (lv' := [(3, .int 2), (4, .int 0), (2, .int 0), (0, .ref m0), (1, .int b9)]) hx hb dX9_parts_63 hl (k := 1) rfl (by decide +kernel) (by decide) rfl (fun ls hl => ?_)
          refine lv_goto (tgt := 4) hx hb dX9_parts_66 (by decide) ?_
          refine lv_iload_n hx hb dX9_parts_4 rfl (lv_at hl 0 rfl) ?_
          refine lv_iconst (v := 2) hx hb dX9_parts_5 (by decide +kernel) ?_
          refine lv_icmp_ge (tgt := 69) hx hb dX9_parts_6 (by decide) (fun c6 => ?_) (fun c6 => ?_)
          ·
            refine lv_iconst (v := 0) hx hb dX9_parts_69 (by decide +kernel) ?_
            refine lv_istore_n (lv' := [(3, .int 0), (4, .int 0), (2, .int 0), (0, .ref m0), (1, .int b9)]) hx hb dX9_parts_70 rfl hl (by decide) rfl (fun ls hl => ?_)
            refine lv_iload_n hx hb dX9_parts_71 rfl (lv_at hl 0 rfl) ?_
            refine lv_aload_n hx hb dX9_parts_72 rfl (lv_at hl 3 rfl) ?_
            refine va_get (ci := 9) (v := .int 0) (C := RX9) (T := TX9) (N := 24) hx hb hts hi9 hown hK hP 0 rfl rfl 7 (by decide) fl88 (fun _ h9 => h9) rfl dX9_parts_73 ?_
            refine lv_icmp_ge (tgt := 97) hx hb dX9_parts_76 (by decide) (fun c76 => ?_) (fun c76 => ?_)
            ·
              exact my_retV hx hb hr hlocks hK hS [(m0, .inr (9, [.int i_thrown, .int i_told, .ref a_row, .ref a_tape, .int i_taped, .int i_at, .int i_to, .int 0, .ref a_number, .ref a_read, .int i_readMany, .ref a_readBits, .ref a_stands, .ref a_parted, .ref a_bitsWere, .ref a_stood, .ref a_chosen, .ref a_bestChosen, .int i_fewest, .ref a_often, .ref a_sorted, .int i_size, .ref a_risen, .ref a_risenWays]))] (hP.sub [0] rfl) (hD.sub [0] (by decide) rfl) (rfl) dX9_parts_97
            ·
              exact absurd c76 (by decide +kernel)
          ·
            exact absurd c6 (by decide +kernel)
        ·
          exact absurd c18 (by decide +kernel)
    ·
      exact absurd c18 (by decide +kernel)
set_option maxHeartbeats 4000000 in
set_option maxRecDepth 100000 in
theorem k0_X9_laysLevel (l : Launch) (D : va_G) (cI cJ : ClassId) (m0 : Nat) (a_row : Nat) (a_tape : Nat) (a_number : Nat) (a_read : Nat) (a_readBits : Nat) (a_stands : Nat) (a_parted : Nat) (a_bitsWere : Nat) (a_stood : Nat) (a_chosen : Nat) (a_bestChosen : Nat) (a_often : Nat) (a_sorted : Nat) (a_risen : Nat) (a_risenWays : Nat) (i_thrown : Int32) (i_told : Int32) (i_taped : Int32) (i_at : Int32) (i_to : Int32) (i_readMany : Int32) (i_fewest : Int32) (i_size : Int32) (j9 : Int32) (hj : j9.toInt ≤ 8) : ctV l yX9_laysLevel wsX9_laysLevel ({ frames := 1, cells := 0, slots := 0, locals := 60 } : Room) D (tyIJ cI cJ) [.ref m0, .int j9] [(m0, .inr (9, [.int i_thrown, .int i_told, .ref a_row, .ref a_tape, .int i_taped, .int i_at, .int i_to, .int 0, .ref a_number, .ref a_read, .int i_readMany, .ref a_readBits, .ref a_stands, .ref a_parted, .ref a_bitsWere, .ref a_stood, .ref a_chosen, .ref a_bestChosen, .int i_fewest, .ref a_often, .ref a_sorted, .int i_size, .ref a_risen, .ref a_risenWays]))] (fun (u : va_W) => u = [(m0, .inr (9, [.int i_thrown, .int i_told, .ref a_row, .ref a_tape, .int i_taped, .int i_at, .int i_to, .int 0, .ref a_number, .ref a_read, .int i_readMany, .ref a_readBits, .ref a_stands, .ref a_parted, .ref a_bitsWere, .ref a_stood, .ref a_chosen, .ref a_bestChosen, .int i_fewest, .ref a_often, .ref a_sorted, .int i_size, .ref a_risen, .ref a_risenWays]))]) := by
  refine ctV.of (cc := cX9_laysLevel) (maxL := 3) (ret := none) (by decide) rfl (Nat.le_of_ble_eq_true rfl) ?_
  intro p e s m below meth c ls A hx hb hr hts hown hml hlocks hname hA hK hN hP hD hS hl
  have hl : lv_has ls 3 [(0, .ref m0), (1, .int j9)] := hl
  have hown : s.vm.findClass RX9 = some m.cls := hown
  refine lv_aload_n hx hb dX9_laysLevel_0 rfl (lv_at hl 0 rfl) ?_
  refine my_goV (wr := []) hP hD hS hA [0] [] rfl rfl (by decide) (by decide) (my_cV (As := []) (rest := []) (ci := 9) (wc := [(m0, .inr (9, [.int i_thrown, .int i_told, .ref a_row, .ref a_tape, .int i_taped, .int i_at, .int i_to, .int 0, .ref a_number, .ref a_read, .int i_readMany, .ref a_readBits, .ref a_stands, .ref a_parted, .ref a_bitsWere, .ref a_stood, .ref a_chosen, .ref a_bestChosen, .int i_fewest, .ref a_often, .ref a_sorted, .int i_size, .ref a_risen, .ref a_risenWays]))]) ⟨hx, hb, hml, hown, hts⟩ (cwV 0 hts gX9_laysLevel_X9_begins rfl rfl rfl (by decide +kernel) ⟨Nat.le_of_ble_eq_true rfl, Nat.le_of_ble_eq_true rfl⟩) hN hK hP hD [0] rfl (by decide) rfl 0 rfl rfl rfl rfl hl.1 rfl (Nat.le_of_ble_eq_true rfl) dX9_laysLevel_1 ⟨Nat.le_of_ble_eq_true rfl, Nat.le_of_ble_eq_true rfl⟩  ((k0_X9_begins l D cI cJ m0 a_row a_tape a_number a_read a_readBits a_stands a_parted a_bitsWere a_stood a_chosen a_bestChosen a_often a_sorted a_risen a_risenWays i_thrown i_told i_taped i_at i_to i_readMany i_fewest i_size) _)) (fun u H locs hp hP hD hS => ?_)
  obtain rfl := hp
  have hP : va_P D vwCl [(m0, .inr (9, [.int i_thrown, .int i_told, .ref a_row, .ref a_tape, .int i_taped, .int i_at, .int i_to, .int 0, .ref a_number, .ref a_read, .int i_readMany, .ref a_readBits, .ref a_stands, .ref a_parted, .ref a_bitsWere, .ref a_stood, .ref a_chosen, .ref a_bestChosen, .int i_fewest, .ref a_often, .ref a_sorted, .int i_size, .ref a_risen, .ref a_risenWays]))] H := hP
  have hD : va_D A [(m0, .inr (9, [.int i_thrown, .int i_told, .ref a_row, .ref a_tape, .int i_taped, .int i_at, .int i_to, .int 0, .ref a_number, .ref a_read, .int i_readMany, .ref a_readBits, .ref a_stands, .ref a_parted, .ref a_bitsWere, .ref a_stood, .ref a_chosen, .ref a_bestChosen, .int i_fewest, .ref a_often, .ref a_sorted, .int i_size, .ref a_risen, .ref a_risenWays]))] := hD
  refine lv_iconst (v := 0) hx hb dX9_laysLevel_4 (by decide +kernel) ?_
  refine lv_istore_n (lv' := [(2, .int 0), (0, .ref m0), (1, .int j9)]) hx hb dX9_laysLevel_5 rfl hl (by decide) rfl (fun ls hl => ?_)
  have loop6 : ∀ (n9 : Nat) (k : Nat), 8 - k < n9 → (k ≤ 8) → ∀ (H : Heap) (locs : List Loc) (ls : Array Slot), va_P D vwCl [(m0, .inr (9, [.int i_thrown, .int i_told, .ref a_row, .ref a_tape, .int i_taped, .int i_at, .int i_to, .int 0, .ref a_number, .ref a_read, .int i_readMany, .ref a_readBits, .ref a_stands, .ref a_parted, .ref a_bitsWere, .ref a_stood, .ref a_chosen, .ref a_bestChosen, .int i_fewest, .ref a_often, .ref a_sorted, .int i_size, .ref a_risen, .ref a_risenWays]))] H → va_D A [(m0, .inr (9, [.int i_thrown, .int i_told, .ref a_row, .ref a_tape, .int i_taped, .int i_at, .int i_to, .int 0, .ref a_number, .ref a_read, .int i_readMany, .ref a_readBits, .ref a_stands, .ref a_parted, .ref a_bitsWere, .ref a_stood, .ref a_chosen, .ref a_bestChosen, .int i_fewest, .ref a_often, .ref a_sorted, .int i_size, .ref a_risen, .ref a_risenWays]))] → va_S A s.heap H locs → lv_has ls 3 [(2, .int (nI k)), (1, .int j9), (0, .ref m0)] → W p l e ({ frames := 1, cells := 0, slots := 0, locals := 60 } : Room) s m [.ref m0, .int j9].toArray below meth c H locs 0 0 (MQ below (va_Qv (fun (u : va_W) => u = [(m0, .inr (9, [.int i_thrown, .int i_told, .ref a_row, .ref a_tape, .int i_taped, .int i_at, .int i_to, .int 0, .ref a_number, .ref a_read, .int i_readMany, .ref a_readBits, .ref a_stands, .ref a_parted, .ref a_bitsWere, .ref a_stood, .ref a_chosen, .ref a_bestChosen, .int i_fewest, .ref a_often, .ref a_sorted, .int i_size, .ref a_risen, .ref a_risenWays]))]) (my_B D (tyIJ cI cJ) A) A) [.ref m0, .int j9].toArray s 0 0 A) (F0 m 6 ls []) := by
    intro n9
    induction n9 with
    | zero =>
      intro k hn9
      exact absurd hn9 (Nat.not_lt_zero _)
    | succ n9 ih6 =>
      intro k hn9 hk H locs ls hP hD hS hl
      refine lv_iload_n hx hb dX9_laysLevel_6 rfl (lv_at hl 0 rfl) ?_
      refine lv_iload_n hx hb dX9_laysLevel_7 rfl (lv_at hl 1 rfl) ?_
      refine lv_icmp_ge (tgt := 25) hx hb dX9_laysLevel_8 (by decide) (fun c8 => ?_) (fun c8 => ?_)
      ·
        have d8 : ((k : Nat) : Int) ≥ j9.toInt := my_ge c8 (nI_toInt (by omega)) rfl
        exact my_retV hx hb hr hlocks hK hS [(m0, .inr (9, [.int i_thrown, .int i_told, .ref a_row, .ref a_tape, .int i_taped, .int i_at, .int i_to, .int 0, .ref a_number, .ref a_read, .int i_readMany, .ref a_readBits, .ref a_stands, .ref a_parted, .ref a_bitsWere, .ref a_stood, .ref a_chosen, .ref a_bestChosen, .int i_fewest, .ref a_often, .ref a_sorted, .int i_size, .ref a_risen, .ref a_risenWays]))] (hP.sub [0] rfl) (hD.sub [0] (by decide) rfl) (rfl) dX9_laysLevel_25
      ·
        have d8 : ((k : Nat) : Int) < j9.toInt := my_nge c8 (nI_toInt (by omega)) rfl
        refine lv_aload_n hx hb dX9_laysLevel_11 rfl (lv_at hl 2 rfl) ?_
        refine lv_bipush (v := 7) hx hb dX9_laysLevel_12 (by decide +kernel) ?_
        refine lv_iload_n hx hb dX9_laysLevel_14 rfl (lv_at hl 0 rfl) ?_
        refine lv_isub hx hb dX9_laysLevel_15 ?_
        refine lv_topi (fun z_1 ez_1 => ?_)
        refine my_goV (wr := []) hP hD hS hA [0] [] rfl rfl (by decide) (by decide) (my_cV (As := [.int z_1]) (rest := []) (ci := 9) (wc := [(m0, .inr (9, [.int i_thrown, .int i_told, .ref a_row, .ref a_tape, .int i_taped, .int i_at, .int i_to, .int 0, .ref a_number, .ref a_read, .int i_readMany, .ref a_readBits, .ref a_stands, .ref a_parted, .ref a_bitsWere, .ref a_stood, .ref a_chosen, .ref a_bestChosen, .int i_fewest, .ref a_often, .ref a_sorted, .int i_size, .ref a_risen, .ref a_risenWays]))]) ⟨hx, hb, hml, hown, hts⟩ (cwV 1 hts gX9_laysLevel_X9_parts rfl rfl rfl (by decide +kernel) ⟨Nat.le_of_ble_eq_true rfl, Nat.le_of_ble_eq_true rfl⟩) hN hK hP hD [0] rfl (by decide) rfl 0 rfl rfl rfl rfl hl.1 rfl (Nat.le_of_ble_eq_true rfl) dX9_laysLevel_16 ⟨Nat.le_of_ble_eq_true rfl, Nat.le_of_ble_eq_true rfl⟩  ((k0_X9_parts l D cI cJ m0 a_row a_tape a_number a_read a_readBits a_stands a_parted a_bitsWere a_stood a_chosen a_bestChosen a_often a_sorted a_risen a_risenWays i_thrown i_told i_taped i_at i_to i_readMany i_fewest i_size z_1) _)) (fun u H locs hp hP hD hS => ?_)
        obtain rfl := hp
        have hP : va_P D vwCl [(m0, .inr (9, [.int i_thrown, .int i_told, .ref a_row, .ref a_tape, .int i_taped, .int i_at, .int i_to, .int 0, .ref a_number, .ref a_read, .int i_readMany, .ref a_readBits, .ref a_stands, .ref a_parted, .ref a_bitsWere, .ref a_stood, .ref a_chosen, .ref a_bestChosen, .int i_fewest, .ref a_often, .ref a_sorted, .int i_size, .ref a_risen, .ref a_risenWays]))] H := hP
        have hD : va_D A [(m0, .inr (9, [.int i_thrown, .int i_told, .ref a_row, .ref a_tape, .int i_taped, .int i_at, .int i_to, .int 0, .ref a_number, .ref a_read, .int i_readMany, .ref a_readBits, .ref a_stands, .ref a_parted, .ref a_bitsWere, .ref a_stood, .ref a_chosen, .ref a_bestChosen, .int i_fewest, .ref a_often, .ref a_sorted, .int i_size, .ref a_risen, .ref a_risenWays]))] := hD
        refine lv_iinc (v := nI (k + 1)) (lv' := [(2, .int (nI (k + 1))), (1, .int j9), (0, .ref m0)]) hx hb dX9_laysLevel_19 hl (k := 0) rfl (my_incN k 1 (by decide +kernel)) (by decide) rfl (fun ls hl => ?_)
        refine lv_goto (tgt := 6) hx hb dX9_laysLevel_22 (by decide) ?_
        exact ih6  (k + 1) (by omega) (by omega) _ _ ls (hP.sub [0] rfl) (hD.sub [0] (by decide) rfl) hS (lv_sub hl [0, 1, 2] rfl)
  exact loop6 ((8 - 0) + 1) 0 (Nat.lt_succ_self _) (by first | omega | decide +kernel) _ _ ls (hP.sub [0] rfl) (hD.sub [0] (by decide) rfl) hS (lv_sub hl [0, 2, 1] rfl)
set_option maxHeartbeats 4000000 in
set_option maxRecDepth 100000 in
theorem k0_X9_runsOf (l : Launch) (D : va_G) (cI cJ : ClassId) (m0 : Nat) (a_row : Nat) (a_tape : Nat) (a_number : Nat) (a_read : Nat) (a_readBits : Nat) (a_stands : Nat) (a_parted : Nat) (a_bitsWere : Nat) (a_stood : Nat) (a_chosen : Nat) (a_bestChosen : Nat) (a_often : Nat) (a_sorted : Nat) (a_risen : Nat) (a_risenWays : Nat) (i_thrown : Int32) (i_told : Int32) (i_taped : Int32) (i_at : Int32) (i_to : Int32) (i_readMany : Int32) (i_fewest : Int32) (i_size : Int32) (b9 : Int32) : cpI l yX9_runsOf wsX9_runsOf ({ frames := 0, cells := 0, slots := 0, locals := 0 } : Room) D (tyIJ cI cJ) [.ref m0, .int b9] [(m0, .inr (9, [.int i_thrown, .int i_told, .ref a_row, .ref a_tape, .int i_taped, .int i_at, .int i_to, .int 0, .ref a_number, .ref a_read, .int i_readMany, .ref a_readBits, .ref a_stands, .ref a_parted, .ref a_bitsWere, .ref a_stood, .ref a_chosen, .ref a_bestChosen, .int i_fewest, .ref a_often, .ref a_sorted, .int i_size, .ref a_risen, .ref a_risenWays]))] (fun (r : Int32) => r = 0) := by
  refine cpI.of (cc := cX9_runsOf) (maxL := 4) (ret := (some .int)) (by decide) rfl (Nat.le_of_ble_eq_true rfl) ?_
  intro p e s m below meth c ls hx hb hr hts hown hml hlocks hname hK hN hP hl
  have hl : lv_has ls 4 [(0, .ref m0), (1, .int b9)] := hl
  have hown : s.vm.findClass RX9 = some m.cls := hown
  have hi9 : ∀ w ∈ u_ws RX9 TX9 24, w ∈ wsX9_runsOf := by decide +kernel
  have fl88 := hts (.fieldLink RX9 88 "PlaneColumnModel" "many" "I") (by decide +kernel)
  refine lv_iconst (v := 0) hx hb dX9_runsOf_0 (by decide +kernel) ?_
  refine lv_istore_n (lv' := [(2, .int 0), (0, .ref m0), (1, .int b9)]) hx hb dX9_runsOf_1 rfl hl (by decide) rfl (fun ls hl => ?_)
  refine lv_iconst (v := 0) hx hb dX9_runsOf_2 (by decide +kernel) ?_
  refine lv_istore_n (lv' := [(3, .int 0), (2, .int 0), (0, .ref m0), (1, .int b9)]) hx hb dX9_runsOf_3 rfl hl (by decide) rfl (fun ls hl => ?_)
  refine lv_iload_n hx hb dX9_runsOf_4 rfl (lv_at hl 0 rfl) ?_
  refine lv_aload_n hx hb dX9_runsOf_5 rfl (lv_at hl 2 rfl) ?_
  refine va_get (ci := 9) (v := .int 0) (C := RX9) (T := TX9) (N := 24) hx hb hts hi9 hown hK hP 0 rfl rfl 7 (by decide) fl88 (fun _ h9 => h9) rfl dX9_runsOf_6 ?_
  refine lv_icmp_ge (tgt := 68) hx hb dX9_runsOf_9 (by decide) (fun c9 => ?_) (fun c9 => ?_)
  ·
    refine lv_iload_n hx hb dX9_runsOf_68 rfl (lv_at hl 1 rfl) ?_
    exact my_rpI hx hb hr hlocks (rfl) dX9_runsOf_69
  ·
    exact absurd c9 (by decide +kernel)
set_option maxHeartbeats 4000000 in
set_option maxRecDepth 100000 in
theorem k0_X9_keepsBits (l : Launch) (D : va_G) (cI cJ : ClassId) (m0 : Nat) (a_row : Nat) (a_tape : Nat) (a_number : Nat) (a_read : Nat) (a_readBits : Nat) (a_stands : Nat) (a_parted : Nat) (a_bitsWere : Nat) (a_stood : Nat) (a_chosen : Nat) (a_bestChosen : Nat) (a_often : Nat) (a_sorted : Nat) (a_risen : Nat) (a_risenWays : Nat) (i_thrown : Int32) (i_told : Int32) (i_taped : Int32) (i_at : Int32) (i_to : Int32) (i_readMany : Int32) (i_fewest : Int32) (i_size : Int32) : ctV l yX9_keepsBits wsX9_keepsBits ({ frames := 2, cells := 0, slots := 0, locals := 120 } : Room) D (tyIJ cI cJ) [.ref m0] [(m0, .inr (9, [.int i_thrown, .int i_told, .ref a_row, .ref a_tape, .int i_taped, .int i_at, .int i_to, .int 0, .ref a_number, .ref a_read, .int i_readMany, .ref a_readBits, .ref a_stands, .ref a_parted, .ref a_bitsWere, .ref a_stood, .ref a_chosen, .ref a_bestChosen, .int i_fewest, .ref a_often, .ref a_sorted, .int i_size, .ref a_risen, .ref a_risenWays]))] (fun (u : va_W) => u = [(m0, .inr (9, [.int i_thrown, .int i_told, .ref a_row, .ref a_tape, .int i_taped, .int i_at, .int i_to, .int 0, .ref a_number, .ref a_read, .int i_readMany, .ref a_readBits, .ref a_stands, .ref a_parted, .ref a_bitsWere, .ref a_stood, .ref a_chosen, .ref a_bestChosen, .int i_fewest, .ref a_often, .ref a_sorted, .int i_size, .ref a_risen, .ref a_risenWays]))]) := by
  refine ctV.of (cc := cX9_keepsBits) (maxL := 3) (ret := none) (by decide) rfl (Nat.le_of_ble_eq_true rfl) ?_
  intro p e s m below meth c ls A hx hb hr hts hown hml hlocks hname hA hK hN hP hD hS hl
  have hl : lv_has ls 3 [(0, .ref m0)] := hl
  have hown : s.vm.findClass RX9 = some m.cls := hown
  have hi9 : ∀ w ∈ u_ws RX9 TX9 24, w ∈ wsX9_keepsBits := by decide +kernel
  have fl88 := hts (.fieldLink RX9 88 "PlaneColumnModel" "many" "I") (by decide +kernel)
  refine lv_iconst (v := 0) hx hb dX9_keepsBits_0 (by decide +kernel) ?_
  refine lv_istore_n (lv' := [(1, .int 0), (0, .ref m0)]) hx hb dX9_keepsBits_1 rfl hl (by decide) rfl (fun ls hl => ?_)
  refine lv_iload_n hx hb dX9_keepsBits_2 rfl (lv_at hl 0 rfl) ?_
  refine lv_bipush (v := 8) hx hb dX9_keepsBits_3 (by decide +kernel) ?_
  refine lv_icmp_ge (tgt := 61) hx hb dX9_keepsBits_5 (by decide) (fun c5 => ?_) (fun c5 => ?_)
  ·
    exact absurd c5 (by decide +kernel)
  ·
    refine lv_aload_n hx hb dX9_keepsBits_8 rfl (lv_at hl 1 rfl) ?_
    refine lv_iload_n hx hb dX9_keepsBits_9 rfl (lv_at hl 0 rfl) ?_
    refine my_goV (wr := []) hP hD hS hA [0] [] rfl rfl (by decide) (by decide) (my_cV (As := [.int 0]) (rest := []) (ci := 9) (wc := [(m0, .inr (9, [.int i_thrown, .int i_told, .ref a_row, .ref a_tape, .int i_taped, .int i_at, .int i_to, .int 0, .ref a_number, .ref a_read, .int i_readMany, .ref a_readBits, .ref a_stands, .ref a_parted, .ref a_bitsWere, .ref a_stood, .ref a_chosen, .ref a_bestChosen, .int i_fewest, .ref a_often, .ref a_sorted, .int i_size, .ref a_risen, .ref a_risenWays]))]) ⟨hx, hb, hml, hown, hts⟩ (cwV 1 hts gX9_keepsBits_X9_laysLevel rfl rfl rfl (by decide +kernel) ⟨Nat.le_of_ble_eq_true rfl, Nat.le_of_ble_eq_true rfl⟩) hN hK hP hD [0] rfl (by decide) rfl 0 rfl rfl rfl rfl hl.1 rfl (Nat.le_of_ble_eq_true rfl) dX9_keepsBits_10 ⟨Nat.le_of_ble_eq_true rfl, Nat.le_of_ble_eq_true rfl⟩  ((k0_X9_laysLevel l D cI cJ m0 a_row a_tape a_number a_read a_readBits a_stands a_parted a_bitsWere a_stood a_chosen a_bestChosen a_often a_sorted a_risen a_risenWays i_thrown i_told i_taped i_at i_to i_readMany i_fewest i_size (0 : Int32) (by first | omega | decide +kernel)) _)) (fun u H locs hp hP hD hS => ?_)
    obtain rfl := hp
    have hP : va_P D vwCl [(m0, .inr (9, [.int i_thrown, .int i_told, .ref a_row, .ref a_tape, .int i_taped, .int i_at, .int i_to, .int 0, .ref a_number, .ref a_read, .int i_readMany, .ref a_readBits, .ref a_stands, .ref a_parted, .ref a_bitsWere, .ref a_stood, .ref a_chosen, .ref a_bestChosen, .int i_fewest, .ref a_often, .ref a_sorted, .int i_size, .ref a_risen, .ref a_risenWays]))] H := hP
    have hD : va_D A [(m0, .inr (9, [.int i_thrown, .int i_told, .ref a_row, .ref a_tape, .int i_taped, .int i_at, .int i_to, .int 0, .ref a_number, .ref a_read, .int i_readMany, .ref a_readBits, .ref a_stands, .ref a_parted, .ref a_bitsWere, .ref a_stood, .ref a_chosen, .ref a_bestChosen, .int i_fewest, .ref a_often, .ref a_sorted, .int i_size, .ref a_risen, .ref a_risenWays]))] := hD
    refine lv_iconst (v := 0) hx hb dX9_keepsBits_13 (by decide +kernel) ?_
    refine lv_istore_n (lv' := [(2, .int 0), (1, .int 0), (0, .ref m0)]) hx hb dX9_keepsBits_14 rfl hl (by decide) rfl (fun ls hl => ?_)
    refine lv_iload_n hx hb dX9_keepsBits_15 rfl (lv_at hl 0 rfl) ?_
    refine lv_aload_n hx hb dX9_keepsBits_16 rfl (lv_at hl 2 rfl) ?_
    refine va_get (ci := 9) (v := .int 0) (C := RX9) (T := TX9) (N := 24) hx hb hts hi9 hown hK hP 0 rfl rfl 7 (by decide) fl88 (fun _ h9 => h9) rfl dX9_keepsBits_17 ?_
    refine lv_icmp_ge (tgt := 55) hx hb dX9_keepsBits_20 (by decide) (fun c20 => ?_) (fun c20 => ?_)
    ·
      refine lv_iinc (v := 1) (lv' := [(1, .int 1), (2, .int 0), (0, .ref m0)]) hx hb dX9_keepsBits_55 hl (k := 1) rfl (by decide +kernel) (by decide) rfl (fun ls hl => ?_)
      refine lv_goto (tgt := 2) hx hb dX9_keepsBits_58 (by decide) ?_
      refine lv_iload_n hx hb dX9_keepsBits_2 rfl (lv_at hl 0 rfl) ?_
      refine lv_bipush (v := 8) hx hb dX9_keepsBits_3 (by decide +kernel) ?_
      refine lv_icmp_ge (tgt := 61) hx hb dX9_keepsBits_5 (by decide) (fun c5 => ?_) (fun c5 => ?_)
      ·
        exact absurd c5 (by decide +kernel)
      ·
        refine lv_aload_n hx hb dX9_keepsBits_8 rfl (lv_at hl 2 rfl) ?_
        refine lv_iload_n hx hb dX9_keepsBits_9 rfl (lv_at hl 0 rfl) ?_
        refine my_goV (wr := []) hP hD hS hA [0] [] rfl rfl (by decide) (by decide) (my_cV (As := [.int 1]) (rest := []) (ci := 9) (wc := [(m0, .inr (9, [.int i_thrown, .int i_told, .ref a_row, .ref a_tape, .int i_taped, .int i_at, .int i_to, .int 0, .ref a_number, .ref a_read, .int i_readMany, .ref a_readBits, .ref a_stands, .ref a_parted, .ref a_bitsWere, .ref a_stood, .ref a_chosen, .ref a_bestChosen, .int i_fewest, .ref a_often, .ref a_sorted, .int i_size, .ref a_risen, .ref a_risenWays]))]) ⟨hx, hb, hml, hown, hts⟩ (cwV 1 hts gX9_keepsBits_X9_laysLevel rfl rfl rfl (by decide +kernel) ⟨Nat.le_of_ble_eq_true rfl, Nat.le_of_ble_eq_true rfl⟩) hN hK hP hD [0] rfl (by decide) rfl 0 rfl rfl rfl rfl hl.1 rfl (Nat.le_of_ble_eq_true rfl) dX9_keepsBits_10 ⟨Nat.le_of_ble_eq_true rfl, Nat.le_of_ble_eq_true rfl⟩  ((k0_X9_laysLevel l D cI cJ m0 a_row a_tape a_number a_read a_readBits a_stands a_parted a_bitsWere a_stood a_chosen a_bestChosen a_often a_sorted a_risen a_risenWays i_thrown i_told i_taped i_at i_to i_readMany i_fewest i_size (1 : Int32) (by first | omega | decide +kernel)) _)) (fun u H locs hp hP hD hS => ?_)
        obtain rfl := hp
        have hP : va_P D vwCl [(m0, .inr (9, [.int i_thrown, .int i_told, .ref a_row, .ref a_tape, .int i_taped, .int i_at, .int i_to, .int 0, .ref a_number, .ref a_read, .int i_readMany, .ref a_readBits, .ref a_stands, .ref a_parted, .ref a_bitsWere, .ref a_stood, .ref a_chosen, .ref a_bestChosen, .int i_fewest, .ref a_often, .ref a_sorted, .int i_size, .ref a_risen, .ref a_risenWays]))] H := hP
        have hD : va_D A [(m0, .inr (9, [.int i_thrown, .int i_told, .ref a_row, .ref a_tape, .int i_taped, .int i_at, .int i_to, .int 0, .ref a_number, .ref a_read, .int i_readMany, .ref a_readBits, .ref a_stands, .ref a_parted, .ref a_bitsWere, .ref a_stood, .ref a_chosen, .ref a_bestChosen, .int i_fewest, .ref a_often, .ref a_sorted, .int i_size, .ref a_risen, .ref a_risenWays]))] := hD
        refine lv_iconst (v := 0) hx hb dX9_keepsBits_13 (by decide +kernel) ?_
        refine lv_istore_n (lv' := [(2, .int 0), (1, .int 1), (0, .ref m0)]) hx hb dX9_keepsBits_14 rfl hl (by decide) rfl (fun ls hl => ?_)
        refine lv_iload_n hx hb dX9_keepsBits_15 rfl (lv_at hl 0 rfl) ?_
        refine lv_aload_n hx hb dX9_keepsBits_16 rfl (lv_at hl 2 rfl) ?_
        refine va_get (ci := 9) (v := .int 0) (C := RX9) (T := TX9) (N := 24) hx hb hts hi9 hown hK hP 0 rfl rfl 7 (by decide) fl88 (fun _ h9 => h9) rfl dX9_keepsBits_17 ?_
        refine lv_icmp_ge (tgt := 55) hx hb dX9_keepsBits_20 (by decide) (fun c20 => ?_) (fun c20 => ?_)
        ·
          refine lv_iinc (v := 2) (lv' := [(1, .int 2), (2, .int 0), (0, .ref m0)]) hx hb dX9_keepsBits_55 hl (k := 1) rfl (by decide +kernel) (by decide) rfl (fun ls hl => ?_)
          refine lv_goto (tgt := 2) hx hb dX9_keepsBits_58 (by decide) ?_
          refine lv_iload_n hx hb dX9_keepsBits_2 rfl (lv_at hl 0 rfl) ?_
          refine lv_bipush (v := 8) hx hb dX9_keepsBits_3 (by decide +kernel) ?_
          refine lv_icmp_ge (tgt := 61) hx hb dX9_keepsBits_5 (by decide) (fun c5 => ?_) (fun c5 => ?_)
          ·
            exact absurd c5 (by decide +kernel)
          ·
            refine lv_aload_n hx hb dX9_keepsBits_8 rfl (lv_at hl 2 rfl) ?_
            refine lv_iload_n hx hb dX9_keepsBits_9 rfl (lv_at hl 0 rfl) ?_
            refine my_goV (wr := []) hP hD hS hA [0] [] rfl rfl (by decide) (by decide) (my_cV (As := [.int 2]) (rest := []) (ci := 9) (wc := [(m0, .inr (9, [.int i_thrown, .int i_told, .ref a_row, .ref a_tape, .int i_taped, .int i_at, .int i_to, .int 0, .ref a_number, .ref a_read, .int i_readMany, .ref a_readBits, .ref a_stands, .ref a_parted, .ref a_bitsWere, .ref a_stood, .ref a_chosen, .ref a_bestChosen, .int i_fewest, .ref a_often, .ref a_sorted, .int i_size, .ref a_risen, .ref a_risenWays]))]) ⟨hx, hb, hml, hown, hts⟩ (cwV 1 hts gX9_keepsBits_X9_laysLevel rfl rfl rfl (by decide +kernel) ⟨Nat.le_of_ble_eq_true rfl, Nat.le_of_ble_eq_true rfl⟩) hN hK hP hD [0] rfl (by decide) rfl 0 rfl rfl rfl rfl hl.1 rfl (Nat.le_of_ble_eq_true rfl) dX9_keepsBits_10 ⟨Nat.le_of_ble_eq_true rfl, Nat.le_of_ble_eq_true rfl⟩  ((k0_X9_laysLevel l D cI cJ m0 a_row a_tape a_number a_read a_readBits a_stands a_parted a_bitsWere a_stood a_chosen a_bestChosen a_often a_sorted a_risen a_risenWays i_thrown i_told i_taped i_at i_to i_readMany i_fewest i_size (2 : Int32) (by first | omega | decide +kernel)) _)) (fun u H locs hp hP hD hS => ?_)
            obtain rfl := hp
            have hP : va_P D vwCl [(m0, .inr (9, [.int i_thrown, .int i_told, .ref a_row, .ref a_tape, .int i_taped, .int i_at, .int i_to, .int 0, .ref a_number, .ref a_read, .int i_readMany, .ref a_readBits, .ref a_stands, .ref a_parted, .ref a_bitsWere, .ref a_stood, .ref a_chosen, .ref a_bestChosen, .int i_fewest, .ref a_often, .ref a_sorted, .int i_size, .ref a_risen, .ref a_risenWays]))] H := hP
            have hD : va_D A [(m0, .inr (9, [.int i_thrown, .int i_told, .ref a_row, .ref a_tape, .int i_taped, .int i_at, .int i_to, .int 0, .ref a_number, .ref a_read, .int i_readMany, .ref a_readBits, .ref a_stands, .ref a_parted, .ref a_bitsWere, .ref a_stood, .ref a_chosen, .ref a_bestChosen, .int i_fewest, .ref a_often, .ref a_sorted, .int i_size, .ref a_risen, .ref a_risenWays]))] := hD
            refine lv_iconst (v := 0) hx hb dX9_keepsBits_13 (by decide +kernel) ?_
            refine lv_istore_n (lv' := [(2, .int 0), (1, .int 2), (0, .ref m0)]) hx hb dX9_keepsBits_14 rfl hl (by decide) rfl (fun ls hl => ?_)
            refine lv_iload_n hx hb dX9_keepsBits_15 rfl (lv_at hl 0 rfl) ?_
            refine lv_aload_n hx hb dX9_keepsBits_16 rfl (lv_at hl 2 rfl) ?_
            refine va_get (ci := 9) (v := .int 0) (C := RX9) (T := TX9) (N := 24) hx hb hts hi9 hown hK hP 0 rfl rfl 7 (by decide) fl88 (fun _ h9 => h9) rfl dX9_keepsBits_17 ?_
            refine lv_icmp_ge (tgt := 55) hx hb dX9_keepsBits_20 (by decide) (fun c20 => ?_) (fun c20 => ?_)
            ·
              refine lv_iinc (v := 3) (lv' := [(1, .int 3), (2, .int 0), (0, .ref m0)]) hx hb dX9_keepsBits_55 hl (k := 1) rfl (by decide +kernel) (by decide) rfl (fun ls hl => ?_)
              refine lv_goto (tgt := 2) hx hb dX9_keepsBits_58 (by decide) ?_
              refine lv_iload_n hx hb dX9_keepsBits_2 rfl (lv_at hl 0 rfl) ?_
              refine lv_bipush (v := 8) hx hb dX9_keepsBits_3 (by decide +kernel) ?_
              refine lv_icmp_ge (tgt := 61) hx hb dX9_keepsBits_5 (by decide) (fun c5 => ?_) (fun c5 => ?_)
              ·
                exact absurd c5 (by decide +kernel)
              ·
                refine lv_aload_n hx hb dX9_keepsBits_8 rfl (lv_at hl 2 rfl) ?_
                refine lv_iload_n hx hb dX9_keepsBits_9 rfl (lv_at hl 0 rfl) ?_
                refine my_goV (wr := []) hP hD hS hA [0] [] rfl rfl (by decide) (by decide) (my_cV (As := [.int 3]) (rest := []) (ci := 9) (wc := [(m0, .inr (9, [.int i_thrown, .int i_told, .ref a_row, .ref a_tape, .int i_taped, .int i_at, .int i_to, .int 0, .ref a_number, .ref a_read, .int i_readMany, .ref a_readBits, .ref a_stands, .ref a_parted, .ref a_bitsWere, .ref a_stood, .ref a_chosen, .ref a_bestChosen, .int i_fewest, .ref a_often, .ref a_sorted, .int i_size, .ref a_risen, .ref a_risenWays]))]) ⟨hx, hb, hml, hown, hts⟩ (cwV 1 hts gX9_keepsBits_X9_laysLevel rfl rfl rfl (by decide +kernel) ⟨Nat.le_of_ble_eq_true rfl, Nat.le_of_ble_eq_true rfl⟩) hN hK hP hD [0] rfl (by decide) rfl 0 rfl rfl rfl rfl hl.1 rfl (Nat.le_of_ble_eq_true rfl) dX9_keepsBits_10 ⟨Nat.le_of_ble_eq_true rfl, Nat.le_of_ble_eq_true rfl⟩  ((k0_X9_laysLevel l D cI cJ m0 a_row a_tape a_number a_read a_readBits a_stands a_parted a_bitsWere a_stood a_chosen a_bestChosen a_often a_sorted a_risen a_risenWays i_thrown i_told i_taped i_at i_to i_readMany i_fewest i_size (3 : Int32) (by first | omega | decide +kernel)) _)) (fun u H locs hp hP hD hS => ?_)
                obtain rfl := hp
                have hP : va_P D vwCl [(m0, .inr (9, [.int i_thrown, .int i_told, .ref a_row, .ref a_tape, .int i_taped, .int i_at, .int i_to, .int 0, .ref a_number, .ref a_read, .int i_readMany, .ref a_readBits, .ref a_stands, .ref a_parted, .ref a_bitsWere, .ref a_stood, .ref a_chosen, .ref a_bestChosen, .int i_fewest, .ref a_often, .ref a_sorted, .int i_size, .ref a_risen, .ref a_risenWays]))] H := hP
                have hD : va_D A [(m0, .inr (9, [.int i_thrown, .int i_told, .ref a_row, .ref a_tape, .int i_taped, .int i_at, .int i_to, .int 0, .ref a_number, .ref a_read, .int i_readMany, .ref a_readBits, .ref a_stands, .ref a_parted, .ref a_bitsWere, .ref a_stood, .ref a_chosen, .ref a_bestChosen, .int i_fewest, .ref a_often, .ref a_sorted, .int i_size, .ref a_risen, .ref a_risenWays]))] := hD
                refine lv_iconst (v := 0) hx hb dX9_keepsBits_13 (by decide +kernel) ?_
                refine lv_istore_n (lv' := [(2, .int 0), (1, .int 3), (0, .ref m0)]) hx hb dX9_keepsBits_14 rfl hl (by decide) rfl (fun ls hl => ?_)
                refine lv_iload_n hx hb dX9_keepsBits_15 rfl (lv_at hl 0 rfl) ?_
                refine lv_aload_n hx hb dX9_keepsBits_16 rfl (lv_at hl 2 rfl) ?_
                refine va_get (ci := 9) (v := .int 0) (C := RX9) (T := TX9) (N := 24) hx hb hts hi9 hown hK hP 0 rfl rfl 7 (by decide) fl88 (fun _ h9 => h9) rfl dX9_keepsBits_17 ?_
                refine lv_icmp_ge (tgt := 55) hx hb dX9_keepsBits_20 (by decide) (fun c20 => ?_) (fun c20 => ?_)
                ·
                  refine lv_iinc (v := 4) (lv' := [(1, .int 4), (2, .int 0), (0, .ref m0)]) hx hb dX9_keepsBits_55 hl (k := 1) rfl (by decide +kernel) (by decide) rfl (fun ls hl => ?_)
                  refine lv_goto (tgt := 2) hx hb dX9_keepsBits_58 (by decide) ?_
                  refine lv_iload_n hx hb dX9_keepsBits_2 rfl (lv_at hl 0 rfl) ?_
                  refine lv_bipush (v := 8) hx hb dX9_keepsBits_3 (by decide +kernel) ?_
                  refine lv_icmp_ge (tgt := 61) hx hb dX9_keepsBits_5 (by decide) (fun c5 => ?_) (fun c5 => ?_)
                  ·
                    exact absurd c5 (by decide +kernel)
                  ·
                    refine lv_aload_n hx hb dX9_keepsBits_8 rfl (lv_at hl 2 rfl) ?_
                    refine lv_iload_n hx hb dX9_keepsBits_9 rfl (lv_at hl 0 rfl) ?_
                    refine my_goV (wr := []) hP hD hS hA [0] [] rfl rfl (by decide) (by decide) (my_cV (As := [.int 4]) (rest := []) (ci := 9) (wc := [(m0, .inr (9, [.int i_thrown, .int i_told, .ref a_row, .ref a_tape, .int i_taped, .int i_at, .int i_to, .int 0, .ref a_number, .ref a_read, .int i_readMany, .ref a_readBits, .ref a_stands, .ref a_parted, .ref a_bitsWere, .ref a_stood, .ref a_chosen, .ref a_bestChosen, .int i_fewest, .ref a_often, .ref a_sorted, .int i_size, .ref a_risen, .ref a_risenWays]))]) ⟨hx, hb, hml, hown, hts⟩ (cwV 1 hts gX9_keepsBits_X9_laysLevel rfl rfl rfl (by decide +kernel) ⟨Nat.le_of_ble_eq_true rfl, Nat.le_of_ble_eq_true rfl⟩) hN hK hP hD [0] rfl (by decide) rfl 0 rfl rfl rfl rfl hl.1 rfl (Nat.le_of_ble_eq_true rfl) dX9_keepsBits_10 ⟨Nat.le_of_ble_eq_true rfl, Nat.le_of_ble_eq_true rfl⟩  ((k0_X9_laysLevel l D cI cJ m0 a_row a_tape a_number a_read a_readBits a_stands a_parted a_bitsWere a_stood a_chosen a_bestChosen a_often a_sorted a_risen a_risenWays i_thrown i_told i_taped i_at i_to i_readMany i_fewest i_size (4 : Int32) (by first | omega | decide +kernel)) _)) (fun u H locs hp hP hD hS => ?_)
                    obtain rfl := hp
                    have hP : va_P D vwCl [(m0, .inr (9, [.int i_thrown, .int i_told, .ref a_row, .ref a_tape, .int i_taped, .int i_at, .int i_to, .int 0, .ref a_number, .ref a_read, .int i_readMany, .ref a_readBits, .ref a_stands, .ref a_parted, .ref a_bitsWere, .ref a_stood, .ref a_chosen, .ref a_bestChosen, .int i_fewest, .ref a_often, .ref a_sorted, .int i_size, .ref a_risen, .ref a_risenWays]))] H := hP
                    have hD : va_D A [(m0, .inr (9, [.int i_thrown, .int i_told, .ref a_row, .ref a_tape, .int i_taped, .int i_at, .int i_to, .int 0, .ref a_number, .ref a_read, .int i_readMany, .ref a_readBits, .ref a_stands, .ref a_parted, .ref a_bitsWere, .ref a_stood, .ref a_chosen, .ref a_bestChosen, .int i_fewest, .ref a_often, .ref a_sorted, .int i_size, .ref a_risen, .ref a_risenWays]))] := hD
                    refine lv_iconst (v := 0) hx hb dX9_keepsBits_13 (by decide +kernel) ?_
                    refine lv_istore_n (lv' := [(2, .int 0), (1, .int 4), (0, .ref m0)]) hx hb dX9_keepsBits_14 rfl hl (by decide) rfl (fun ls hl => ?_)
                    refine lv_iload_n hx hb dX9_keepsBits_15 rfl (lv_at hl 0 rfl) ?_
                    refine lv_aload_n hx hb dX9_keepsBits_16 rfl (lv_at hl 2 rfl) ?_
                    refine va_get (ci := 9) (v := .int 0) (C := RX9) (T := TX9) (N := 24) hx hb hts hi9 hown hK hP 0 rfl rfl 7 (by decide) fl88 (fun _ h9 => h9) rfl dX9_keepsBits_17 ?_
                    refine lv_icmp_ge (tgt := 55) hx hb dX9_keepsBits_20 (by decide) (fun c20 => ?_) (fun c20 => ?_)
                    ·
                      refine lv_iinc (v := 5) (lv' := [(1, .int 5), (2, .int 0), (0, .ref m0)]) hx hb dX9_keepsBits_55 hl (k := 1) rfl (by decide +kernel) (by decide) rfl (fun ls hl => ?_)
                      refine lv_goto (tgt := 2) hx hb dX9_keepsBits_58 (by decide) ?_
                      refine lv_iload_n hx hb dX9_keepsBits_2 rfl (lv_at hl 0 rfl) ?_
                      refine lv_bipush (v := 8) hx hb dX9_keepsBits_3 (by decide +kernel) ?_
                      refine lv_icmp_ge (tgt := 61) hx hb dX9_keepsBits_5 (by decide) (fun c5 => ?_) (fun c5 => ?_)
                      ·
                        exact absurd c5 (by decide +kernel)
                      ·
                        refine lv_aload_n hx hb dX9_keepsBits_8 rfl (lv_at hl 2 rfl) ?_
                        refine lv_iload_n hx hb dX9_keepsBits_9 rfl (lv_at hl 0 rfl) ?_
                        refine my_goV (wr := []) hP hD hS hA [0] [] rfl rfl (by decide) (by decide) (my_cV (As := [.int 5]) (rest := []) (ci := 9) (wc := [(m0, .inr (9, [.int i_thrown, .int i_told, .ref a_row, .ref a_tape, .int i_taped, .int i_at, .int i_to, .int 0, .ref a_number, .ref a_read, .int i_readMany, .ref a_readBits, .ref a_stands, .ref a_parted, .ref a_bitsWere, .ref a_stood, .ref a_chosen, .ref a_bestChosen, .int i_fewest, .ref a_often, .ref a_sorted, .int i_size, .ref a_risen, .ref a_risenWays]))]) ⟨hx, hb, hml, hown, hts⟩ (cwV 1 hts gX9_keepsBits_X9_laysLevel rfl rfl rfl (by decide +kernel) ⟨Nat.le_of_ble_eq_true rfl, Nat.le_of_ble_eq_true rfl⟩) hN hK hP hD [0] rfl (by decide) rfl 0 rfl rfl rfl rfl hl.1 rfl (Nat.le_of_ble_eq_true rfl) dX9_keepsBits_10 ⟨Nat.le_of_ble_eq_true rfl, Nat.le_of_ble_eq_true rfl⟩  ((k0_X9_laysLevel l D cI cJ m0 a_row a_tape a_number a_read a_readBits a_stands a_parted a_bitsWere a_stood a_chosen a_bestChosen a_often a_sorted a_risen a_risenWays i_thrown i_told i_taped i_at i_to i_readMany i_fewest i_size (5 : Int32) (by first | omega | decide +kernel)) _)) (fun u H locs hp hP hD hS => ?_)
                        obtain rfl := hp
                        have hP : va_P D vwCl [(m0, .inr (9, [.int i_thrown, .int i_told, .ref a_row, .ref a_tape, .int i_taped, .int i_at, .int i_to, .int 0, .ref a_number, .ref a_read, .int i_readMany, .ref a_readBits, .ref a_stands, .ref a_parted, .ref a_bitsWere, .ref a_stood, .ref a_chosen, .ref a_bestChosen, .int i_fewest, .ref a_often, .ref a_sorted, .int i_size, .ref a_risen, .ref a_risenWays]))] H := hP
                        have hD : va_D A [(m0, .inr (9, [.int i_thrown, .int i_told, .ref a_row, .ref a_tape, .int i_taped, .int i_at, .int i_to, .int 0, .ref a_number, .ref a_read, .int i_readMany, .ref a_readBits, .ref a_stands, .ref a_parted, .ref a_bitsWere, .ref a_stood, .ref a_chosen, .ref a_bestChosen, .int i_fewest, .ref a_often, .ref a_sorted, .int i_size, .ref a_risen, .ref a_risenWays]))] := hD
                        refine lv_iconst (v := 0) hx hb dX9_keepsBits_13 (by decide +kernel) ?_
                        refine lv_istore_n (lv' := [(2, .int 0), (1, .int 5), (0, .ref m0)]) hx hb dX9_keepsBits_14 rfl hl (by decide) rfl (fun ls hl => ?_)
                        refine lv_iload_n hx hb dX9_keepsBits_15 rfl (lv_at hl 0 rfl) ?_
                        refine lv_aload_n hx hb dX9_keepsBits_16 rfl (lv_at hl 2 rfl) ?_
                        refine va_get (ci := 9) (v := .int 0) (C := RX9) (T := TX9) (N := 24) hx hb hts hi9 hown hK hP 0 rfl rfl 7 (by decide) fl88 (fun _ h9 => h9) rfl dX9_keepsBits_17 ?_
                        refine lv_icmp_ge (tgt := 55) hx hb dX9_keepsBits_20 (by decide) (fun c20 => ?_) (fun c20 => ?_)
                        ·
                          refine lv_iinc (v := 6) (lv' := [(1, .int 6), (2, .int 0), (0, .ref m0)]) hx hb dX9_keepsBits_55 hl (k := 1) rfl (by decide +kernel) (by decide) rfl (fun ls hl => ?_)
                          refine lv_goto (tgt := 2) hx hb dX9_keepsBits_58 (by decide) ?_
                          refine lv_iload_n hx hb dX9_keepsBits_2 rfl (lv_at hl 0 rfl) ?_
                          refine lv_bipush (v := 8) hx hb dX9_keepsBits_3 (by decide +kernel) ?_
                          refine lv_icmp_ge (tgt := 61) hx hb dX9_keepsBits_5 (by decide) (fun c5 => ?_) (fun c5 => ?_)
                          ·
                            exact absurd c5 (by decide +kernel)
                          ·
                            refine lv_aload_n hx hb dX9_keepsBits_8 rfl (lv_at hl 2 rfl) ?_
                            refine lv_iload_n hx hb dX9_keepsBits_9 rfl (lv_at hl 0 rfl) ?_
                            refine my_goV (wr := []) hP hD hS hA [0] [] rfl rfl (by decide) (by decide) (my_cV (As := [.int 6]) (rest := []) (ci := 9) (wc := [(m0, .inr (9, [.int i_thrown, .int i_told, .ref a_row, .ref a_tape, .int i_taped, .int i_at, .int i_to, .int 0, .ref a_number, .ref a_read, .int i_readMany, .ref a_readBits, .ref a_stands, .ref a_parted, .ref a_bitsWere, .ref a_stood, .ref a_chosen, .ref a_bestChosen, .int i_fewest, .ref a_often, .ref a_sorted, .int i_size, .ref a_risen, .ref a_risenWays]))]) ⟨hx, hb, hml, hown, hts⟩ (cwV 1 hts gX9_keepsBits_X9_laysLevel rfl rfl rfl (by decide +kernel) ⟨Nat.le_of_ble_eq_true rfl, Nat.le_of_ble_eq_true rfl⟩) hN hK hP hD [0] rfl (by decide) rfl 0 rfl rfl rfl rfl hl.1 rfl (Nat.le_of_ble_eq_true rfl) dX9_keepsBits_10 ⟨Nat.le_of_ble_eq_true rfl, Nat.le_of_ble_eq_true rfl⟩  ((k0_X9_laysLevel l D cI cJ m0 a_row a_tape a_number a_read a_readBits a_stands a_parted a_bitsWere a_stood a_chosen a_bestChosen a_often a_sorted a_risen a_risenWays i_thrown i_told i_taped i_at i_to i_readMany i_fewest i_size (6 : Int32) (by first | omega | decide +kernel)) _)) (fun u H locs hp hP hD hS => ?_)
                            obtain rfl := hp
                            have hP : va_P D vwCl [(m0, .inr (9, [.int i_thrown, .int i_told, .ref a_row, .ref a_tape, .int i_taped, .int i_at, .int i_to, .int 0, .ref a_number, .ref a_read, .int i_readMany, .ref a_readBits, .ref a_stands, .ref a_parted, .ref a_bitsWere, .ref a_stood, .ref a_chosen, .ref a_bestChosen, .int i_fewest, .ref a_often, .ref a_sorted, .int i_size, .ref a_risen, .ref a_risenWays]))] H := hP
                            have hD : va_D A [(m0, .inr (9, [.int i_thrown, .int i_told, .ref a_row, .ref a_tape, .int i_taped, .int i_at, .int i_to, .int 0, .ref a_number, .ref a_read, .int i_readMany, .ref a_readBits, .ref a_stands, .ref a_parted, .ref a_bitsWere, .ref a_stood, .ref a_chosen, .ref a_bestChosen, .int i_fewest, .ref a_often, .ref a_sorted, .int i_size, .ref a_risen, .ref a_risenWays]))] := hD
                            refine lv_iconst (v := 0) hx hb dX9_keepsBits_13 (by decide +kernel) ?_
                            refine lv_istore_n (lv' := [(2, .int 0), (1, .int 6), (0, .ref m0)]) hx hb dX9_keepsBits_14 rfl hl (by decide) rfl (fun ls hl => ?_)
                            refine lv_iload_n hx hb dX9_keepsBits_15 rfl (lv_at hl 0 rfl) ?_
                            refine lv_aload_n hx hb dX9_keepsBits_16 rfl (lv_at hl 2 rfl) ?_
                            refine va_get (ci := 9) (v := .int 0) (C := RX9) (T := TX9) (N := 24) hx hb hts hi9 hown hK hP 0 rfl rfl 7 (by decide) fl88 (fun _ h9 => h9) rfl dX9_keepsBits_17 ?_
                            refine lv_icmp_ge (tgt := 55) hx hb dX9_keepsBits_20 (by decide) (fun c20 => ?_) (fun c20 => ?_)
                            ·
                              refine lv_iinc (v := 7) (lv' := [(1, .int 7), (2, .int 0), (0, .ref m0)]) hx hb dX9_keepsBits_55 hl (k := 1) rfl (by decide +kernel) (by decide) rfl (fun ls hl => ?_)
                              refine lv_goto (tgt := 2) hx hb dX9_keepsBits_58 (by decide) ?_
                              refine lv_iload_n hx hb dX9_keepsBits_2 rfl (lv_at hl 0 rfl) ?_
                              refine lv_bipush (v := 8) hx hb dX9_keepsBits_3 (by decide +kernel) ?_
                              refine lv_icmp_ge (tgt := 61) hx hb dX9_keepsBits_5 (by decide) (fun c5 => ?_) (fun c5 => ?_)
                              ·
                                exact absurd c5 (by decide +kernel)
                              ·
                                refine lv_aload_n hx hb dX9_keepsBits_8 rfl (lv_at hl 2 rfl) ?_
                                refine lv_iload_n hx hb dX9_keepsBits_9 rfl (lv_at hl 0 rfl) ?_
                                refine my_goV (wr := []) hP hD hS hA [0] [] rfl rfl (by decide) (by decide) (my_cV (As := [.int 7]) (rest := []) (ci := 9) (wc := [(m0, .inr (9, [.int i_thrown, .int i_told, .ref a_row, .ref a_tape, .int i_taped, .int i_at, .int i_to, .int 0, .ref a_number, .ref a_read, .int i_readMany, .ref a_readBits, .ref a_stands, .ref a_parted, .ref a_bitsWere, .ref a_stood, .ref a_chosen, .ref a_bestChosen, .int i_fewest, .ref a_often, .ref a_sorted, .int i_size, .ref a_risen, .ref a_risenWays]))]) ⟨hx, hb, hml, hown, hts⟩ (cwV 1 hts gX9_keepsBits_X9_laysLevel rfl rfl rfl (by decide +kernel) ⟨Nat.le_of_ble_eq_true rfl, Nat.le_of_ble_eq_true rfl⟩) hN hK hP hD [0] rfl (by decide) rfl 0 rfl rfl rfl rfl hl.1 rfl (Nat.le_of_ble_eq_true rfl) dX9_keepsBits_10 ⟨Nat.le_of_ble_eq_true rfl, Nat.le_of_ble_eq_true rfl⟩  ((k0_X9_laysLevel l D cI cJ m0 a_row a_tape a_number a_read a_readBits a_stands a_parted a_bitsWere a_stood a_chosen a_bestChosen a_often a_sorted a_risen a_risenWays i_thrown i_told i_taped i_at i_to i_readMany i_fewest i_size (7 : Int32) (by first | omega | decide +kernel)) _)) (fun u H locs hp hP hD hS => ?_)
                                obtain rfl := hp
                                have hP : va_P D vwCl [(m0, .inr (9, [.int i_thrown, .int i_told, .ref a_row, .ref a_tape, .int i_taped, .int i_at, .int i_to, .int 0, .ref a_number, .ref a_read, .int i_readMany, .ref a_readBits, .ref a_stands, .ref a_parted, .ref a_bitsWere, .ref a_stood, .ref a_chosen, .ref a_bestChosen, .int i_fewest, .ref a_often, .ref a_sorted, .int i_size, .ref a_risen, .ref a_risenWays]))] H := hP
                                have hD : va_D A [(m0, .inr (9, [.int i_thrown, .int i_told, .ref a_row, .ref a_tape, .int i_taped, .int i_at, .int i_to, .int 0, .ref a_number, .ref a_read, .int i_readMany, .ref a_readBits, .ref a_stands, .ref a_parted, .ref a_bitsWere, .ref a_stood, .ref a_chosen, .ref a_bestChosen, .int i_fewest, .ref a_often, .ref a_sorted, .int i_size, .ref a_risen, .ref a_risenWays]))] := hD
                                refine lv_iconst (v := 0) hx hb dX9_keepsBits_13 (by decide +kernel) ?_
                                refine lv_istore_n (lv' := [(2, .int 0), (1, .int 7), (0, .ref m0)]) hx hb dX9_keepsBits_14 rfl hl (by decide) rfl (fun ls hl => ?_)
                                refine lv_iload_n hx hb dX9_keepsBits_15 rfl (lv_at hl 0 rfl) ?_
                                refine lv_aload_n hx hb dX9_keepsBits_16 rfl (lv_at hl 2 rfl) ?_
                                refine va_get (ci := 9) (v := .int 0) (C := RX9) (T := TX9) (N := 24) hx hb hts hi9 hown hK hP 0 rfl rfl 7 (by decide) fl88 (fun _ h9 => h9) rfl dX9_keepsBits_17 ?_
                                refine lv_icmp_ge (tgt := 55) hx hb dX9_keepsBits_20 (by decide) (fun c20 => ?_) (fun c20 => ?_)
                                ·
                                  refine lv_iinc (v := 8) (lv' := [(1, .int 8), (2, .int 0), (0, .ref m0)]) hx hb dX9_keepsBits_55 hl (k := 1) rfl (by decide +kernel) (by decide) rfl (fun ls hl => ?_)
                                  refine lv_goto (tgt := 2) hx hb dX9_keepsBits_58 (by decide) ?_
                                  refine lv_iload_n hx hb dX9_keepsBits_2 rfl (lv_at hl 0 rfl) ?_
                                  refine lv_bipush (v := 8) hx hb dX9_keepsBits_3 (by decide +kernel) ?_
                                  refine lv_icmp_ge (tgt := 61) hx hb dX9_keepsBits_5 (by decide) (fun c5 => ?_) (fun c5 => ?_)
                                  ·
                                    exact my_retV hx hb hr hlocks hK hS [(m0, .inr (9, [.int i_thrown, .int i_told, .ref a_row, .ref a_tape, .int i_taped, .int i_at, .int i_to, .int 0, .ref a_number, .ref a_read, .int i_readMany, .ref a_readBits, .ref a_stands, .ref a_parted, .ref a_bitsWere, .ref a_stood, .ref a_chosen, .ref a_bestChosen, .int i_fewest, .ref a_often, .ref a_sorted, .int i_size, .ref a_risen, .ref a_risenWays]))] (hP.sub [0] rfl) (hD.sub [0] (by decide) rfl) (rfl) dX9_keepsBits_61
                                  ·
                                    exact absurd c5 (by decide +kernel)
                                ·
                                  exact absurd c20 (by decide +kernel)
                            ·
                              exact absurd c20 (by decide +kernel)
                        ·
                          exact absurd c20 (by decide +kernel)
                    ·
                      exact absurd c20 (by decide +kernel)
                ·
                  exact absurd c20 (by decide +kernel)
            ·
              exact absurd c20 (by decide +kernel)
        ·
          exact absurd c20 (by decide +kernel)
    ·
      exact absurd c20 (by decide +kernel)
set_option maxHeartbeats 4000000 in
set_option maxRecDepth 100000 in
theorem k0_X9_otherBits (l : Launch) (D : va_G) (cI cJ : ClassId) (m0 : Nat) (a_row : Nat) (a_tape : Nat) (a_number : Nat) (a_read : Nat) (a_readBits : Nat) (a_stands : Nat) (a_parted : Nat) (a_bitsWere : Nat) (a_stood : Nat) (a_chosen : Nat) (a_bestChosen : Nat) (a_often : Nat) (a_sorted : Nat) (a_risen : Nat) (a_risenWays : Nat) (i_thrown : Int32) (i_told : Int32) (i_taped : Int32) (i_at : Int32) (i_to : Int32) (i_readMany : Int32) (i_fewest : Int32) (i_size : Int32) : ctI l yX9_otherBits wsX9_otherBits ({ frames := 2, cells := 0, slots := 0, locals := 120 } : Room) D (tyIJ cI cJ) [.ref m0] [(m0, .inr (9, [.int i_thrown, .int i_told, .ref a_row, .ref a_tape, .int i_taped, .int i_at, .int i_to, .int 0, .ref a_number, .ref a_read, .int i_readMany, .ref a_readBits, .ref a_stands, .ref a_parted, .ref a_bitsWere, .ref a_stood, .ref a_chosen, .ref a_bestChosen, .int i_fewest, .ref a_often, .ref a_sorted, .int i_size, .ref a_risen, .ref a_risenWays]))] (fun (r : Int32) (u : va_W) => u = [(m0, .inr (9, [.int i_thrown, .int i_told, .ref a_row, .ref a_tape, .int i_taped, .int i_at, .int i_to, .int 0, .ref a_number, .ref a_read, .int i_readMany, .ref a_readBits, .ref a_stands, .ref a_parted, .ref a_bitsWere, .ref a_stood, .ref a_chosen, .ref a_bestChosen, .int i_fewest, .ref a_often, .ref a_sorted, .int i_size, .ref a_risen, .ref a_risenWays]))] ∧ r = 0) := by
  refine ctI.of (cc := cX9_otherBits) (maxL := 4) (ret := (some .int)) (by decide) rfl (Nat.le_of_ble_eq_true rfl) ?_
  intro p e s m below meth c ls A hx hb hr hts hown hml hlocks hname hA hK hN hP hD hS hl
  have hl : lv_has ls 4 [(0, .ref m0)] := hl
  have hown : s.vm.findClass RX9 = some m.cls := hown
  have hi9 : ∀ w ∈ u_ws RX9 TX9 24, w ∈ wsX9_otherBits := by decide +kernel
  have fl88 := hts (.fieldLink RX9 88 "PlaneColumnModel" "many" "I") (by decide +kernel)
  refine lv_iconst (v := 0) hx hb dX9_otherBits_0 (by decide +kernel) ?_
  refine lv_istore_n (lv' := [(1, .int 0), (0, .ref m0)]) hx hb dX9_otherBits_1 rfl hl (by decide) rfl (fun ls hl => ?_)
  refine lv_iconst (v := 0) hx hb dX9_otherBits_2 (by decide +kernel) ?_
  refine lv_istore_n (lv' := [(2, .int 0), (1, .int 0), (0, .ref m0)]) hx hb dX9_otherBits_3 rfl hl (by decide) rfl (fun ls hl => ?_)
  refine lv_iload_n hx hb dX9_otherBits_4 rfl (lv_at hl 0 rfl) ?_
  refine lv_bipush (v := 8) hx hb dX9_otherBits_5 (by decide +kernel) ?_
  refine lv_icmp_ge (tgt := 77) hx hb dX9_otherBits_7 (by decide) (fun c7 => ?_) (fun c7 => ?_)
  ·
    exact absurd c7 (by decide +kernel)
  ·
    refine lv_aload_n hx hb dX9_otherBits_10 rfl (lv_at hl 2 rfl) ?_
    refine lv_iload_n hx hb dX9_otherBits_11 rfl (lv_at hl 0 rfl) ?_
    refine my_goV (wr := []) hP hD hS hA [0] [] rfl rfl (by decide) (by decide) (my_cV (As := [.int 0]) (rest := []) (ci := 9) (wc := [(m0, .inr (9, [.int i_thrown, .int i_told, .ref a_row, .ref a_tape, .int i_taped, .int i_at, .int i_to, .int 0, .ref a_number, .ref a_read, .int i_readMany, .ref a_readBits, .ref a_stands, .ref a_parted, .ref a_bitsWere, .ref a_stood, .ref a_chosen, .ref a_bestChosen, .int i_fewest, .ref a_often, .ref a_sorted, .int i_size, .ref a_risen, .ref a_risenWays]))]) ⟨hx, hb, hml, hown, hts⟩ (cwV 1 hts gX9_otherBits_X9_laysLevel rfl rfl rfl (by decide +kernel) ⟨Nat.le_of_ble_eq_true rfl, Nat.le_of_ble_eq_true rfl⟩) hN hK hP hD [0] rfl (by decide) rfl 0 rfl rfl rfl rfl hl.1 rfl (Nat.le_of_ble_eq_true rfl) dX9_otherBits_12 ⟨Nat.le_of_ble_eq_true rfl, Nat.le_of_ble_eq_true rfl⟩  ((k0_X9_laysLevel l D cI cJ m0 a_row a_tape a_number a_read a_readBits a_stands a_parted a_bitsWere a_stood a_chosen a_bestChosen a_often a_sorted a_risen a_risenWays i_thrown i_told i_taped i_at i_to i_readMany i_fewest i_size (0 : Int32) (by first | omega | decide +kernel)) _)) (fun u H locs hp hP hD hS => ?_)
    obtain rfl := hp
    have hP : va_P D vwCl [(m0, .inr (9, [.int i_thrown, .int i_told, .ref a_row, .ref a_tape, .int i_taped, .int i_at, .int i_to, .int 0, .ref a_number, .ref a_read, .int i_readMany, .ref a_readBits, .ref a_stands, .ref a_parted, .ref a_bitsWere, .ref a_stood, .ref a_chosen, .ref a_bestChosen, .int i_fewest, .ref a_often, .ref a_sorted, .int i_size, .ref a_risen, .ref a_risenWays]))] H := hP
    have hD : va_D A [(m0, .inr (9, [.int i_thrown, .int i_told, .ref a_row, .ref a_tape, .int i_taped, .int i_at, .int i_to, .int 0, .ref a_number, .ref a_read, .int i_readMany, .ref a_readBits, .ref a_stands, .ref a_parted, .ref a_bitsWere, .ref a_stood, .ref a_chosen, .ref a_bestChosen, .int i_fewest, .ref a_often, .ref a_sorted, .int i_size, .ref a_risen, .ref a_risenWays]))] := hD
    refine lv_iconst (v := 0) hx hb dX9_otherBits_15 (by decide +kernel) ?_
    refine lv_istore_n (lv' := [(3, .int 0), (2, .int 0), (1, .int 0), (0, .ref m0)]) hx hb dX9_otherBits_16 rfl hl (by decide) rfl (fun ls hl => ?_)
    refine lv_iload_n hx hb dX9_otherBits_17 rfl (lv_at hl 0 rfl) ?_
    refine lv_aload_n hx hb dX9_otherBits_18 rfl (lv_at hl 3 rfl) ?_
    refine va_get (ci := 9) (v := .int 0) (C := RX9) (T := TX9) (N := 24) hx hb hts hi9 hown hK hP 0 rfl rfl 7 (by decide) fl88 (fun _ h9 => h9) rfl dX9_otherBits_19 ?_
    refine lv_icmp_ge (tgt := 71) hx hb dX9_otherBits_22 (by decide) (fun c22 => ?_) (fun c22 => ?_)
    ·
      refine lv_iinc (v := 1) (lv' := [(2, .int 1), (3, .int 0), (1, .int 0), (0, .ref m0)]) hx hb dX9_otherBits_71 hl (k := 1) rfl (by decide +kernel) (by decide) rfl (fun ls hl => ?_)
      refine lv_goto (tgt := 4) hx hb dX9_otherBits_74 (by decide) ?_
      refine lv_iload_n hx hb dX9_otherBits_4 rfl (lv_at hl 0 rfl) ?_
      refine lv_bipush (v := 8) hx hb dX9_otherBits_5 (by decide +kernel) ?_
      refine lv_icmp_ge (tgt := 77) hx hb dX9_otherBits_7 (by decide) (fun c7 => ?_) (fun c7 => ?_)
      ·
        exact absurd c7 (by decide +kernel)
      ·
        refine lv_aload_n hx hb dX9_otherBits_10 rfl (lv_at hl 3 rfl) ?_
        refine lv_iload_n hx hb dX9_otherBits_11 rfl (lv_at hl 0 rfl) ?_
        refine my_goV (wr := []) hP hD hS hA [0] [] rfl rfl (by decide) (by decide) (my_cV (As := [.int 1]) (rest := []) (ci := 9) (wc := [(m0, .inr (9, [.int i_thrown, .int i_told, .ref a_row, .ref a_tape, .int i_taped, .int i_at, .int i_to, .int 0, .ref a_number, .ref a_read, .int i_readMany, .ref a_readBits, .ref a_stands, .ref a_parted, .ref a_bitsWere, .ref a_stood, .ref a_chosen, .ref a_bestChosen, .int i_fewest, .ref a_often, .ref a_sorted, .int i_size, .ref a_risen, .ref a_risenWays]))]) ⟨hx, hb, hml, hown, hts⟩ (cwV 1 hts gX9_otherBits_X9_laysLevel rfl rfl rfl (by decide +kernel) ⟨Nat.le_of_ble_eq_true rfl, Nat.le_of_ble_eq_true rfl⟩) hN hK hP hD [0] rfl (by decide) rfl 0 rfl rfl rfl rfl hl.1 rfl (Nat.le_of_ble_eq_true rfl) dX9_otherBits_12 ⟨Nat.le_of_ble_eq_true rfl, Nat.le_of_ble_eq_true rfl⟩  ((k0_X9_laysLevel l D cI cJ m0 a_row a_tape a_number a_read a_readBits a_stands a_parted a_bitsWere a_stood a_chosen a_bestChosen a_often a_sorted a_risen a_risenWays i_thrown i_told i_taped i_at i_to i_readMany i_fewest i_size (1 : Int32) (by first | omega | decide +kernel)) _)) (fun u H locs hp hP hD hS => ?_)
        obtain rfl := hp
        have hP : va_P D vwCl [(m0, .inr (9, [.int i_thrown, .int i_told, .ref a_row, .ref a_tape, .int i_taped, .int i_at, .int i_to, .int 0, .ref a_number, .ref a_read, .int i_readMany, .ref a_readBits, .ref a_stands, .ref a_parted, .ref a_bitsWere, .ref a_stood, .ref a_chosen, .ref a_bestChosen, .int i_fewest, .ref a_often, .ref a_sorted, .int i_size, .ref a_risen, .ref a_risenWays]))] H := hP
        have hD : va_D A [(m0, .inr (9, [.int i_thrown, .int i_told, .ref a_row, .ref a_tape, .int i_taped, .int i_at, .int i_to, .int 0, .ref a_number, .ref a_read, .int i_readMany, .ref a_readBits, .ref a_stands, .ref a_parted, .ref a_bitsWere, .ref a_stood, .ref a_chosen, .ref a_bestChosen, .int i_fewest, .ref a_often, .ref a_sorted, .int i_size, .ref a_risen, .ref a_risenWays]))] := hD
        refine lv_iconst (v := 0) hx hb dX9_otherBits_15 (by decide +kernel) ?_
        refine lv_istore_n (lv' := [(3, .int 0), (2, .int 1), (1, .int 0), (0, .ref m0)]) hx hb dX9_otherBits_16 rfl hl (by decide) rfl (fun ls hl => ?_)
        refine lv_iload_n hx hb dX9_otherBits_17 rfl (lv_at hl 0 rfl) ?_
        refine lv_aload_n hx hb dX9_otherBits_18 rfl (lv_at hl 3 rfl) ?_
        refine va_get (ci := 9) (v := .int 0) (C := RX9) (T := TX9) (N := 24) hx hb hts hi9 hown hK hP 0 rfl rfl 7 (by decide) fl88 (fun _ h9 => h9) rfl dX9_otherBits_19 ?_
        refine lv_icmp_ge (tgt := 71) hx hb dX9_otherBits_22 (by decide) (fun c22 => ?_) (fun c22 => ?_)
        ·
          refine lv_iinc (v := 2) (lv' := [(2, .int 2), (3, .int 0), (1, .int 0), (0, .ref m0)]) hx hb dX9_otherBits_71 hl (k := 1) rfl (by decide +kernel) (by decide) rfl (fun ls hl => ?_)
          refine lv_goto (tgt := 4) hx hb dX9_otherBits_74 (by decide) ?_
          refine lv_iload_n hx hb dX9_otherBits_4 rfl (lv_at hl 0 rfl) ?_
          refine lv_bipush (v := 8) hx hb dX9_otherBits_5 (by decide +kernel) ?_
          refine lv_icmp_ge (tgt := 77) hx hb dX9_otherBits_7 (by decide) (fun c7 => ?_) (fun c7 => ?_)
          ·
            exact absurd c7 (by decide +kernel)
          ·
            refine lv_aload_n hx hb dX9_otherBits_10 rfl (lv_at hl 3 rfl) ?_
            refine lv_iload_n hx hb dX9_otherBits_11 rfl (lv_at hl 0 rfl) ?_
            refine my_goV (wr := []) hP hD hS hA [0] [] rfl rfl (by decide) (by decide) (my_cV (As := [.int 2]) (rest := []) (ci := 9) (wc := [(m0, .inr (9, [.int i_thrown, .int i_told, .ref a_row, .ref a_tape, .int i_taped, .int i_at, .int i_to, .int 0, .ref a_number, .ref a_read, .int i_readMany, .ref a_readBits, .ref a_stands, .ref a_parted, .ref a_bitsWere, .ref a_stood, .ref a_chosen, .ref a_bestChosen, .int i_fewest, .ref a_often, .ref a_sorted, .int i_size, .ref a_risen, .ref a_risenWays]))]) ⟨hx, hb, hml, hown, hts⟩ (cwV 1 hts gX9_otherBits_X9_laysLevel rfl rfl rfl (by decide +kernel) ⟨Nat.le_of_ble_eq_true rfl, Nat.le_of_ble_eq_true rfl⟩) hN hK hP hD [0] rfl (by decide) rfl 0 rfl rfl rfl rfl hl.1 rfl (Nat.le_of_ble_eq_true rfl) dX9_otherBits_12 ⟨Nat.le_of_ble_eq_true rfl, Nat.le_of_ble_eq_true rfl⟩  ((k0_X9_laysLevel l D cI cJ m0 a_row a_tape a_number a_read a_readBits a_stands a_parted a_bitsWere a_stood a_chosen a_bestChosen a_often a_sorted a_risen a_risenWays i_thrown i_told i_taped i_at i_to i_readMany i_fewest i_size (2 : Int32) (by first | omega | decide +kernel)) _)) (fun u H locs hp hP hD hS => ?_)
            obtain rfl := hp
            have hP : va_P D vwCl [(m0, .inr (9, [.int i_thrown, .int i_told, .ref a_row, .ref a_tape, .int i_taped, .int i_at, .int i_to, .int 0, .ref a_number, .ref a_read, .int i_readMany, .ref a_readBits, .ref a_stands, .ref a_parted, .ref a_bitsWere, .ref a_stood, .ref a_chosen, .ref a_bestChosen, .int i_fewest, .ref a_often, .ref a_sorted, .int i_size, .ref a_risen, .ref a_risenWays]))] H := hP
            have hD : va_D A [(m0, .inr (9, [.int i_thrown, .int i_told, .ref a_row, .ref a_tape, .int i_taped, .int i_at, .int i_to, .int 0, .ref a_number, .ref a_read, .int i_readMany, .ref a_readBits, .ref a_stands, .ref a_parted, .ref a_bitsWere, .ref a_stood, .ref a_chosen, .ref a_bestChosen, .int i_fewest, .ref a_often, .ref a_sorted, .int i_size, .ref a_risen, .ref a_risenWays]))] := hD
            refine lv_iconst (v := 0) hx hb dX9_otherBits_15 (by decide +kernel) ?_
            refine lv_istore_n (lv' := [(3, .int 0), (2, .int 2), (1, .int 0), (0, .ref m0)]) hx hb dX9_otherBits_16 rfl hl (by decide) rfl (fun ls hl => ?_)
            refine lv_iload_n hx hb dX9_otherBits_17 rfl (lv_at hl 0 rfl) ?_
            refine lv_aload_n hx hb dX9_otherBits_18 rfl (lv_at hl 3 rfl) ?_
            refine va_get (ci := 9) (v := .int 0) (C := RX9) (T := TX9) (N := 24) hx hb hts hi9 hown hK hP 0 rfl rfl 7 (by decide) fl88 (fun _ h9 => h9) rfl dX9_otherBits_19 ?_
            refine lv_icmp_ge (tgt := 71) hx hb dX9_otherBits_22 (by decide) (fun c22 => ?_) (fun c22 => ?_)
            ·
              refine lv_iinc (v := 3) (lv' := [(2, .int 3), (3, .int 0), (1, .int 0), (0, .ref m0)]) hx hb dX9_otherBits_71 hl (k := 1) rfl (by decide +kernel) (by decide) rfl (fun ls hl => ?_)
              refine lv_goto (tgt := 4) hx hb dX9_otherBits_74 (by decide) ?_
              refine lv_iload_n hx hb dX9_otherBits_4 rfl (lv_at hl 0 rfl) ?_
              refine lv_bipush (v := 8) hx hb dX9_otherBits_5 (by decide +kernel) ?_
              refine lv_icmp_ge (tgt := 77) hx hb dX9_otherBits_7 (by decide) (fun c7 => ?_) (fun c7 => ?_)
              ·
                exact absurd c7 (by decide +kernel)
              ·
                refine lv_aload_n hx hb dX9_otherBits_10 rfl (lv_at hl 3 rfl) ?_
                refine lv_iload_n hx hb dX9_otherBits_11 rfl (lv_at hl 0 rfl) ?_
                refine my_goV (wr := []) hP hD hS hA [0] [] rfl rfl (by decide) (by decide) (my_cV (As := [.int 3]) (rest := []) (ci := 9) (wc := [(m0, .inr (9, [.int i_thrown, .int i_told, .ref a_row, .ref a_tape, .int i_taped, .int i_at, .int i_to, .int 0, .ref a_number, .ref a_read, .int i_readMany, .ref a_readBits, .ref a_stands, .ref a_parted, .ref a_bitsWere, .ref a_stood, .ref a_chosen, .ref a_bestChosen, .int i_fewest, .ref a_often, .ref a_sorted, .int i_size, .ref a_risen, .ref a_risenWays]))]) ⟨hx, hb, hml, hown, hts⟩ (cwV 1 hts gX9_otherBits_X9_laysLevel rfl rfl rfl (by decide +kernel) ⟨Nat.le_of_ble_eq_true rfl, Nat.le_of_ble_eq_true rfl⟩) hN hK hP hD [0] rfl (by decide) rfl 0 rfl rfl rfl rfl hl.1 rfl (Nat.le_of_ble_eq_true rfl) dX9_otherBits_12 ⟨Nat.le_of_ble_eq_true rfl, Nat.le_of_ble_eq_true rfl⟩  ((k0_X9_laysLevel l D cI cJ m0 a_row a_tape a_number a_read a_readBits a_stands a_parted a_bitsWere a_stood a_chosen a_bestChosen a_often a_sorted a_risen a_risenWays i_thrown i_told i_taped i_at i_to i_readMany i_fewest i_size (3 : Int32) (by first | omega | decide +kernel)) _)) (fun u H locs hp hP hD hS => ?_)
                obtain rfl := hp
                have hP : va_P D vwCl [(m0, .inr (9, [.int i_thrown, .int i_told, .ref a_row, .ref a_tape, .int i_taped, .int i_at, .int i_to, .int 0, .ref a_number, .ref a_read, .int i_readMany, .ref a_readBits, .ref a_stands, .ref a_parted, .ref a_bitsWere, .ref a_stood, .ref a_chosen, .ref a_bestChosen, .int i_fewest, .ref a_often, .ref a_sorted, .int i_size, .ref a_risen, .ref a_risenWays]))] H := hP
                have hD : va_D A [(m0, .inr (9, [.int i_thrown, .int i_told, .ref a_row, .ref a_tape, .int i_taped, .int i_at, .int i_to, .int 0, .ref a_number, .ref a_read, .int i_readMany, .ref a_readBits, .ref a_stands, .ref a_parted, .ref a_bitsWere, .ref a_stood, .ref a_chosen, .ref a_bestChosen, .int i_fewest, .ref a_often, .ref a_sorted, .int i_size, .ref a_risen, .ref a_risenWays]))] := hD
                refine lv_iconst (v := 0) hx hb dX9_otherBits_15 (by decide +kernel) ?_
                refine lv_istore_n (lv' := [(3, .int 0), (2, .int 3), (1, .int 0), (0, .ref m0)]) hx hb dX9_otherBits_16 rfl hl (by decide) rfl (fun ls hl => ?_)
                refine lv_iload_n hx hb dX9_otherBits_17 rfl (lv_at hl 0 rfl) ?_
                refine lv_aload_n hx hb dX9_otherBits_18 rfl (lv_at hl 3 rfl) ?_
                refine va_get (ci := 9) (v := .int 0) (C := RX9) (T := TX9) (N := 24) hx hb hts hi9 hown hK hP 0 rfl rfl 7 (by decide) fl88 (fun _ h9 => h9) rfl dX9_otherBits_19 ?_
                refine lv_icmp_ge (tgt := 71) hx hb dX9_otherBits_22 (by decide) (fun c22 => ?_) (fun c22 => ?_)
                ·
                  refine lv_iinc (v := 4) (lv' := [(2, .int 4), (3, .int 0), (1, .int 0), (0, .ref m0)]) hx hb dX9_otherBits_71 hl (k := 1) rfl (by decide +kernel) (by decide) rfl (fun ls hl => ?_)
                  refine lv_goto (tgt := 4) hx hb dX9_otherBits_74 (by decide) ?_
                  refine lv_iload_n hx hb dX9_otherBits_4 rfl (lv_at hl 0 rfl) ?_
                  refine lv_bipush (v := 8) hx hb dX9_otherBits_5 (by decide +kernel) ?_
                  refine lv_icmp_ge (tgt := 77) hx hb dX9_otherBits_7 (by decide) (fun c7 => ?_) (fun c7 => ?_)
                  ·
                    exact absurd c7 (by decide +kernel)
                  ·
                    refine lv_aload_n hx hb dX9_otherBits_10 rfl (lv_at hl 3 rfl) ?_
                    refine lv_iload_n hx hb dX9_otherBits_11 rfl (lv_at hl 0 rfl) ?_
                    refine my_goV (wr := []) hP hD hS hA [0] [] rfl rfl (by decide) (by decide) (my_cV (As := [.int 4]) (rest := []) (ci := 9) (wc := [(m0, .inr (9, [.int i_thrown, .int i_told, .ref a_row, .ref a_tape, .int i_taped, .int i_at, .int i_to, .int 0, .ref a_number, .ref a_read, .int i_readMany, .ref a_readBits, .ref a_stands, .ref a_parted, .ref a_bitsWere, .ref a_stood, .ref a_chosen, .ref a_bestChosen, .int i_fewest, .ref a_often, .ref a_sorted, .int i_size, .ref a_risen, .ref a_risenWays]))]) ⟨hx, hb, hml, hown, hts⟩ (cwV 1 hts gX9_otherBits_X9_laysLevel rfl rfl rfl (by decide +kernel) ⟨Nat.le_of_ble_eq_true rfl, Nat.le_of_ble_eq_true rfl⟩) hN hK hP hD [0] rfl (by decide) rfl 0 rfl rfl rfl rfl hl.1 rfl (Nat.le_of_ble_eq_true rfl) dX9_otherBits_12 ⟨Nat.le_of_ble_eq_true rfl, Nat.le_of_ble_eq_true rfl⟩  ((k0_X9_laysLevel l D cI cJ m0 a_row a_tape a_number a_read a_readBits a_stands a_parted a_bitsWere a_stood a_chosen a_bestChosen a_often a_sorted a_risen a_risenWays i_thrown i_told i_taped i_at i_to i_readMany i_fewest i_size (4 : Int32) (by first | omega | decide +kernel)) _)) (fun u H locs hp hP hD hS => ?_)
                    obtain rfl := hp
                    have hP : va_P D vwCl [(m0, .inr (9, [.int i_thrown, .int i_told, .ref a_row, .ref a_tape, .int i_taped, .int i_at, .int i_to, .int 0, .ref a_number, .ref a_read, .int i_readMany, .ref a_readBits, .ref a_stands, .ref a_parted, .ref a_bitsWere, .ref a_stood, .ref a_chosen, .ref a_bestChosen, .int i_fewest, .ref a_often, .ref a_sorted, .int i_size, .ref a_risen, .ref a_risenWays]))] H := hP
                    have hD : va_D A [(m0, .inr (9, [.int i_thrown, .int i_told, .ref a_row, .ref a_tape, .int i_taped, .int i_at, .int i_to, .int 0, .ref a_number, .ref a_read, .int i_readMany, .ref a_readBits, .ref a_stands, .ref a_parted, .ref a_bitsWere, .ref a_stood, .ref a_chosen, .ref a_bestChosen, .int i_fewest, .ref a_often, .ref a_sorted, .int i_size, .ref a_risen, .ref a_risenWays]))] := hD
                    refine lv_iconst (v := 0) hx hb dX9_otherBits_15 (by decide +kernel) ?_
                    refine lv_istore_n (lv' := [(3, .int 0), (2, .int 4), (1, .int 0), (0, .ref m0)]) hx hb dX9_otherBits_16 rfl hl (by decide) rfl (fun ls hl => ?_)
                    refine lv_iload_n hx hb dX9_otherBits_17 rfl (lv_at hl 0 rfl) ?_
                    refine lv_aload_n hx hb dX9_otherBits_18 rfl (lv_at hl 3 rfl) ?_
                    refine va_get (ci := 9) (v := .int 0) (C := RX9) (T := TX9) (N := 24) hx hb hts hi9 hown hK hP 0 rfl rfl 7 (by decide) fl88 (fun _ h9 => h9) rfl dX9_otherBits_19 ?_
                    refine lv_icmp_ge (tgt := 71) hx hb dX9_otherBits_22 (by decide) (fun c22 => ?_) (fun c22 => ?_)
                    ·
                      refine lv_iinc (v := 5) (lv' := [(2, .int 5), (3, .int 0), (1, .int 0), (0, .ref m0)]) hx hb dX9_otherBits_71 hl (k := 1) rfl (by decide +kernel) (by decide) rfl (fun ls hl => ?_)
                      refine lv_goto (tgt := 4) hx hb dX9_otherBits_74 (by decide) ?_
                      refine lv_iload_n hx hb dX9_otherBits_4 rfl (lv_at hl 0 rfl) ?_
                      refine lv_bipush (v := 8) hx hb dX9_otherBits_5 (by decide +kernel) ?_
                      refine lv_icmp_ge (tgt := 77) hx hb dX9_otherBits_7 (by decide) (fun c7 => ?_) (fun c7 => ?_)
                      ·
                        exact absurd c7 (by decide +kernel)
                      ·
                        refine lv_aload_n hx hb dX9_otherBits_10 rfl (lv_at hl 3 rfl) ?_
                        refine lv_iload_n hx hb dX9_otherBits_11 rfl (lv_at hl 0 rfl) ?_
                        refine my_goV (wr := []) hP hD hS hA [0] [] rfl rfl (by decide) (by decide) (my_cV (As := [.int 5]) (rest := []) (ci := 9) (wc := [(m0, .inr (9, [.int i_thrown, .int i_told, .ref a_row, .ref a_tape, .int i_taped, .int i_at, .int i_to, .int 0, .ref a_number, .ref a_read, .int i_readMany, .ref a_readBits, .ref a_stands, .ref a_parted, .ref a_bitsWere, .ref a_stood, .ref a_chosen, .ref a_bestChosen, .int i_fewest, .ref a_often, .ref a_sorted, .int i_size, .ref a_risen, .ref a_risenWays]))]) ⟨hx, hb, hml, hown, hts⟩ (cwV 1 hts gX9_otherBits_X9_laysLevel rfl rfl rfl (by decide +kernel) ⟨Nat.le_of_ble_eq_true rfl, Nat.le_of_ble_eq_true rfl⟩) hN hK hP hD [0] rfl (by decide) rfl 0 rfl rfl rfl rfl hl.1 rfl (Nat.le_of_ble_eq_true rfl) dX9_otherBits_12 ⟨Nat.le_of_ble_eq_true rfl, Nat.le_of_ble_eq_true rfl⟩  ((k0_X9_laysLevel l D cI cJ m0 a_row a_tape a_number a_read a_readBits a_stands a_parted a_bitsWere a_stood a_chosen a_bestChosen a_often a_sorted a_risen a_risenWays i_thrown i_told i_taped i_at i_to i_readMany i_fewest i_size (5 : Int32) (by first | omega | decide +kernel)) _)) (fun u H locs hp hP hD hS => ?_)
                        obtain rfl := hp
                        have hP : va_P D vwCl [(m0, .inr (9, [.int i_thrown, .int i_told, .ref a_row, .ref a_tape, .int i_taped, .int i_at, .int i_to, .int 0, .ref a_number, .ref a_read, .int i_readMany, .ref a_readBits, .ref a_stands, .ref a_parted, .ref a_bitsWere, .ref a_stood, .ref a_chosen, .ref a_bestChosen, .int i_fewest, .ref a_often, .ref a_sorted, .int i_size, .ref a_risen, .ref a_risenWays]))] H := hP
                        have hD : va_D A [(m0, .inr (9, [.int i_thrown, .int i_told, .ref a_row, .ref a_tape, .int i_taped, .int i_at, .int i_to, .int 0, .ref a_number, .ref a_read, .int i_readMany, .ref a_readBits, .ref a_stands, .ref a_parted, .ref a_bitsWere, .ref a_stood, .ref a_chosen, .ref a_bestChosen, .int i_fewest, .ref a_often, .ref a_sorted, .int i_size, .ref a_risen, .ref a_risenWays]))] := hD
                        refine lv_iconst (v := 0) hx hb dX9_otherBits_15 (by decide +kernel) ?_
                        refine lv_istore_n (lv' := [(3, .int 0), (2, .int 5), (1, .int 0), (0, .ref m0)]) hx hb dX9_otherBits_16 rfl hl (by decide) rfl (fun ls hl => ?_)
                        refine lv_iload_n hx hb dX9_otherBits_17 rfl (lv_at hl 0 rfl) ?_
                        refine lv_aload_n hx hb dX9_otherBits_18 rfl (lv_at hl 3 rfl) ?_
                        refine va_get (ci := 9) (v := .int 0) (C := RX9) (T := TX9) (N := 24) hx hb hts hi9 hown hK hP 0 rfl rfl 7 (by decide) fl88 (fun _ h9 => h9) rfl dX9_otherBits_19 ?_
                        refine lv_icmp_ge (tgt := 71) hx hb dX9_otherBits_22 (by decide) (fun c22 => ?_) (fun c22 => ?_)
                        ·
                          refine lv_iinc (v := 6) (lv' := [(2, .int 6), (3, .int 0), (1, .int 0), (0, .ref m0)]) hx hb dX9_otherBits_71 hl (k := 1) rfl (by decide +kernel) (by decide) rfl (fun ls hl => ?_)
                          refine lv_goto (tgt := 4) hx hb dX9_otherBits_74 (by decide) ?_
                          refine lv_iload_n hx hb dX9_otherBits_4 rfl (lv_at hl 0 rfl) ?_
                          refine lv_bipush (v := 8) hx hb dX9_otherBits_5 (by decide +kernel) ?_
                          refine lv_icmp_ge (tgt := 77) hx hb dX9_otherBits_7 (by decide) (fun c7 => ?_) (fun c7 => ?_)
                          ·
                            exact absurd c7 (by decide +kernel)
                          ·
                            refine lv_aload_n hx hb dX9_otherBits_10 rfl (lv_at hl 3 rfl) ?_
                            refine lv_iload_n hx hb dX9_otherBits_11 rfl (lv_at hl 0 rfl) ?_
                            refine my_goV (wr := []) hP hD hS hA [0] [] rfl rfl (by decide) (by decide) (my_cV (As := [.int 6]) (rest := []) (ci := 9) (wc := [(m0, .inr (9, [.int i_thrown, .int i_told, .ref a_row, .ref a_tape, .int i_taped, .int i_at, .int i_to, .int 0, .ref a_number, .ref a_read, .int i_readMany, .ref a_readBits, .ref a_stands, .ref a_parted, .ref a_bitsWere, .ref a_stood, .ref a_chosen, .ref a_bestChosen, .int i_fewest, .ref a_often, .ref a_sorted, .int i_size, .ref a_risen, .ref a_risenWays]))]) ⟨hx, hb, hml, hown, hts⟩ (cwV 1 hts gX9_otherBits_X9_laysLevel rfl rfl rfl (by decide +kernel) ⟨Nat.le_of_ble_eq_true rfl, Nat.le_of_ble_eq_true rfl⟩) hN hK hP hD [0] rfl (by decide) rfl 0 rfl rfl rfl rfl hl.1 rfl (Nat.le_of_ble_eq_true rfl) dX9_otherBits_12 ⟨Nat.le_of_ble_eq_true rfl, Nat.le_of_ble_eq_true rfl⟩  ((k0_X9_laysLevel l D cI cJ m0 a_row a_tape a_number a_read a_readBits a_stands a_parted a_bitsWere a_stood a_chosen a_bestChosen a_often a_sorted a_risen a_risenWays i_thrown i_told i_taped i_at i_to i_readMany i_fewest i_size (6 : Int32) (by first | omega | decide +kernel)) _)) (fun u H locs hp hP hD hS => ?_)
                            obtain rfl := hp
                            have hP : va_P D vwCl [(m0, .inr (9, [.int i_thrown, .int i_told, .ref a_row, .ref a_tape, .int i_taped, .int i_at, .int i_to, .int 0, .ref a_number, .ref a_read, .int i_readMany, .ref a_readBits, .ref a_stands, .ref a_parted, .ref a_bitsWere, .ref a_stood, .ref a_chosen, .ref a_bestChosen, .int i_fewest, .ref a_often, .ref a_sorted, .int i_size, .ref a_risen, .ref a_risenWays]))] H := hP
                            have hD : va_D A [(m0, .inr (9, [.int i_thrown, .int i_told, .ref a_row, .ref a_tape, .int i_taped, .int i_at, .int i_to, .int 0, .ref a_number, .ref a_read, .int i_readMany, .ref a_readBits, .ref a_stands, .ref a_parted, .ref a_bitsWere, .ref a_stood, .ref a_chosen, .ref a_bestChosen, .int i_fewest, .ref a_often, .ref a_sorted, .int i_size, .ref a_risen, .ref a_risenWays]))] := hD
                            refine lv_iconst (v := 0) hx hb dX9_otherBits_15 (by decide +kernel) ?_
                            refine lv_istore_n (lv' := [(3, .int 0), (2, .int 6), (1, .int 0), (0, .ref m0)]) hx hb dX9_otherBits_16 rfl hl (by decide) rfl (fun ls hl => ?_)
                            refine lv_iload_n hx hb dX9_otherBits_17 rfl (lv_at hl 0 rfl) ?_
                            refine lv_aload_n hx hb dX9_otherBits_18 rfl (lv_at hl 3 rfl) ?_
                            refine va_get (ci := 9) (v := .int 0) (C := RX9) (T := TX9) (N := 24) hx hb hts hi9 hown hK hP 0 rfl rfl 7 (by decide) fl88 (fun _ h9 => h9) rfl dX9_otherBits_19 ?_
                            refine lv_icmp_ge (tgt := 71) hx hb dX9_otherBits_22 (by decide) (fun c22 => ?_) (fun c22 => ?_)
                            ·
                              refine lv_iinc (v := 7) (lv' := [(2, .int 7), (3, .int 0), (1, .int 0), (0, .ref m0)]) hx hb dX9_otherBits_71 hl (k := 1) rfl (by decide +kernel) (by decide) rfl (fun ls hl => ?_)
                              refine lv_goto (tgt := 4) hx hb dX9_otherBits_74 (by decide) ?_
                              refine lv_iload_n hx hb dX9_otherBits_4 rfl (lv_at hl 0 rfl) ?_
                              refine lv_bipush (v := 8) hx hb dX9_otherBits_5 (by decide +kernel) ?_
                              refine lv_icmp_ge (tgt := 77) hx hb dX9_otherBits_7 (by decide) (fun c7 => ?_) (fun c7 => ?_)
                              ·
                                exact absurd c7 (by decide +kernel)
                              ·
                                refine lv_aload_n hx hb dX9_otherBits_10 rfl (lv_at hl 3 rfl) ?_
                                refine lv_iload_n hx hb dX9_otherBits_11 rfl (lv_at hl 0 rfl) ?_
                                refine my_goV (wr := []) hP hD hS hA [0] [] rfl rfl (by decide) (by decide) (my_cV (As := [.int 7]) (rest := []) (ci := 9) (wc := [(m0, .inr (9, [.int i_thrown, .int i_told, .ref a_row, .ref a_tape, .int i_taped, .int i_at, .int i_to, .int 0, .ref a_number, .ref a_read, .int i_readMany, .ref a_readBits, .ref a_stands, .ref a_parted, .ref a_bitsWere, .ref a_stood, .ref a_chosen, .ref a_bestChosen, .int i_fewest, .ref a_often, .ref a_sorted, .int i_size, .ref a_risen, .ref a_risenWays]))]) ⟨hx, hb, hml, hown, hts⟩ (cwV 1 hts gX9_otherBits_X9_laysLevel rfl rfl rfl (by decide +kernel) ⟨Nat.le_of_ble_eq_true rfl, Nat.le_of_ble_eq_true rfl⟩) hN hK hP hD [0] rfl (by decide) rfl 0 rfl rfl rfl rfl hl.1 rfl (Nat.le_of_ble_eq_true rfl) dX9_otherBits_12 ⟨Nat.le_of_ble_eq_true rfl, Nat.le_of_ble_eq_true rfl⟩  ((k0_X9_laysLevel l D cI cJ m0 a_row a_tape a_number a_read a_readBits a_stands a_parted a_bitsWere a_stood a_chosen a_bestChosen a_often a_sorted a_risen a_risenWays i_thrown i_told i_taped i_at i_to i_readMany i_fewest i_size (7 : Int32) (by first | omega | decide +kernel)) _)) (fun u H locs hp hP hD hS => ?_)
                                obtain rfl := hp
                                have hP : va_P D vwCl [(m0, .inr (9, [.int i_thrown, .int i_told, .ref a_row, .ref a_tape, .int i_taped, .int i_at, .int i_to, .int 0, .ref a_number, .ref a_read, .int i_readMany, .ref a_readBits, .ref a_stands, .ref a_parted, .ref a_bitsWere, .ref a_stood, .ref a_chosen, .ref a_bestChosen, .int i_fewest, .ref a_often, .ref a_sorted, .int i_size, .ref a_risen, .ref a_risenWays]))] H := hP
                                have hD : va_D A [(m0, .inr (9, [.int i_thrown, .int i_told, .ref a_row, .ref a_tape, .int i_taped, .int i_at, .int i_to, .int 0, .ref a_number, .ref a_read, .int i_readMany, .ref a_readBits, .ref a_stands, .ref a_parted, .ref a_bitsWere, .ref a_stood, .ref a_chosen, .ref a_bestChosen, .int i_fewest, .ref a_often, .ref a_sorted, .int i_size, .ref a_risen, .ref a_risenWays]))] := hD
                                refine lv_iconst (v := 0) hx hb dX9_otherBits_15 (by decide +kernel) ?_
                                refine lv_istore_n (lv' := [(3, .int 0), (2, .int 7), (1, .int 0), (0, .ref m0)]) hx hb dX9_otherBits_16 rfl hl (by decide) rfl (fun ls hl => ?_)
                                refine lv_iload_n hx hb dX9_otherBits_17 rfl (lv_at hl 0 rfl) ?_
                                refine lv_aload_n hx hb dX9_otherBits_18 rfl (lv_at hl 3 rfl) ?_
                                refine va_get (ci := 9) (v := .int 0) (C := RX9) (T := TX9) (N := 24) hx hb hts hi9 hown hK hP 0 rfl rfl 7 (by decide) fl88 (fun _ h9 => h9) rfl dX9_otherBits_19 ?_
                                refine lv_icmp_ge (tgt := 71) hx hb dX9_otherBits_22 (by decide) (fun c22 => ?_) (fun c22 => ?_)
                                ·
                                  refine lv_iinc (v := 8) (lv' := [(2, .int 8), (3, .int 0), (1, .int 0), (0, .ref m0)]) hx hb dX9_otherBits_71 hl (k := 1) rfl (by decide +kernel) (by decide) rfl (fun ls hl => ?_)
                                  refine lv_goto (tgt := 4) hx hb dX9_otherBits_74 (by decide) ?_
                                  refine lv_iload_n hx hb dX9_otherBits_4 rfl (lv_at hl 0 rfl) ?_
                                  refine lv_bipush (v := 8) hx hb dX9_otherBits_5 (by decide +kernel) ?_
                                  refine lv_icmp_ge (tgt := 77) hx hb dX9_otherBits_7 (by decide) (fun c7 => ?_) (fun c7 => ?_)
                                  ·
                                    refine lv_iload_n hx hb dX9_otherBits_77 rfl (lv_at hl 2 rfl) ?_
                                    exact my_retI hx hb hr hlocks hK hS [(m0, .inr (9, [.int i_thrown, .int i_told, .ref a_row, .ref a_tape, .int i_taped, .int i_at, .int i_to, .int 0, .ref a_number, .ref a_read, .int i_readMany, .ref a_readBits, .ref a_stands, .ref a_parted, .ref a_bitsWere, .ref a_stood, .ref a_chosen, .ref a_bestChosen, .int i_fewest, .ref a_often, .ref a_sorted, .int i_size, .ref a_risen, .ref a_risenWays]))] (hP.sub [0] rfl) (hD.sub [0] (by decide) rfl) (⟨rfl, rfl⟩) dX9_otherBits_78
                                  ·
                                    exact absurd c7 (by decide +kernel)
                                ·
                                  exact absurd c22 (by decide +kernel)
                            ·
                              exact absurd c22 (by decide +kernel)
                        ·
                          exact absurd c22 (by decide +kernel)
                    ·
                      exact absurd c22 (by decide +kernel)
                ·
                  exact absurd c22 (by decide +kernel)
            ·
              exact absurd c22 (by decide +kernel)
        ·
          exact absurd c22 (by decide +kernel)
    ·
      exact absurd c22 (by decide +kernel)
set_option maxHeartbeats 4000000 in
set_option maxRecDepth 100000 in
theorem kq_X9_triesBits (l : Launch) (D : va_G) (cI cJ : ClassId) (m0 : Nat) (a_row : Nat) (a_tape : Nat) (a_number : Nat) (a_read : Nat) (a_readBits : Nat) (a_stands : Nat) (a_parted : Nat) (a_bitsWere : Nat) (a_stood : Nat) (a_chosen : Nat) (a_bestChosen : Nat) (a_often : Nat) (a_sorted : Nat) (a_risen : Nat) (a_risenWays : Nat) (i_thrown : Int32) (i_told : Int32) (i_taped : Int32) (i_at : Int32) (i_to : Int32) (i_readMany : Int32) (i_size : Int32) (j9 : Int32) (u9 : Int32) : ctV l yX9_triesBits wsX9_triesBits ({ frames := 0, cells := 0, slots := 0, locals := 0 } : Room) D (tyIJ cI cJ) [.ref m0, .int j9, .int u9, .int 0] [(m0, .inr (9, [.int i_thrown, .int i_told, .ref a_row, .ref a_tape, .int i_taped, .int i_at, .int i_to, .int 0, .ref a_number, .ref a_read, .int i_readMany, .ref a_readBits, .ref a_stands, .ref a_parted, .ref a_bitsWere, .ref a_stood, .ref a_chosen, .ref a_bestChosen, .int 0, .ref a_often, .ref a_sorted, .int i_size, .ref a_risen, .ref a_risenWays]))] (fun (u : va_W) => u = [(m0, .inr (9, [.int i_thrown, .int i_told, .ref a_row, .ref a_tape, .int i_taped, .int i_at, .int i_to, .int 0, .ref a_number, .ref a_read, .int i_readMany, .ref a_readBits, .ref a_stands, .ref a_parted, .ref a_bitsWere, .ref a_stood, .ref a_chosen, .ref a_bestChosen, .int 0, .ref a_often, .ref a_sorted, .int i_size, .ref a_risen, .ref a_risenWays]))]) := by
  refine ctV.of (cc := cX9_triesBits) (maxL := 7) (ret := none) (by decide) rfl (Nat.le_of_ble_eq_true rfl) ?_
  intro p e s m below meth c ls A hx hb hr hts hown hml hlocks hname hA hK hN hP hD hS hl
  have hl : lv_has ls 7 [(0, .ref m0), (1, .int j9), (2, .int u9), (3, .int 0)] := hl
  have hown : s.vm.findClass RX9 = some m.cls := hown
  have hi9 : ∀ w ∈ u_ws RX9 TX9 24, w ∈ wsX9_triesBits := by decide +kernel
  have fl162 := hts (.fieldLink RX9 162 "PlaneColumnModel" "fewest" "I") (by decide +kernel)
  refine lv_aload_n hx hb dX9_triesBits_0 rfl (lv_at hl 0 rfl) ?_
  refine va_get (ci := 9) (v := .int 0) (C := RX9) (T := TX9) (N := 24) hx hb hts hi9 hown hK hP 0 rfl rfl 18 (by decide) fl162 (fun _ h9 => h9) rfl dX9_triesBits_1 ?_
  refine lv_if_lt (tgt := 16) hx hb dX9_triesBits_4 (by decide) (fun c4 => ?_) (fun c4 => ?_)
  ·
    exact absurd c4 (by decide +kernel)
  ·
    refine lv_iload_n hx hb dX9_triesBits_7 rfl (lv_at hl 3 rfl) ?_
    refine lv_aload_n hx hb dX9_triesBits_8 rfl (lv_at hl 0 rfl) ?_
    refine va_get (ci := 9) (v := .int 0) (C := RX9) (T := TX9) (N := 24) hx hb hts hi9 hown hK hP 0 rfl rfl 18 (by decide) fl162 (fun _ h9 => h9) rfl dX9_triesBits_9 ?_
    refine lv_icmp_lt (tgt := 16) hx hb dX9_triesBits_12 (by decide) (fun c12 => ?_) (fun c12 => ?_)
    ·
      exact absurd c12 (by decide +kernel)
    ·
      exact my_retV hx hb hr hlocks hK hS [(m0, .inr (9, [.int i_thrown, .int i_told, .ref a_row, .ref a_tape, .int i_taped, .int i_at, .int i_to, .int 0, .ref a_number, .ref a_read, .int i_readMany, .ref a_readBits, .ref a_stands, .ref a_parted, .ref a_bitsWere, .ref a_stood, .ref a_chosen, .ref a_bestChosen, .int 0, .ref a_often, .ref a_sorted, .int i_size, .ref a_risen, .ref a_risenWays]))] (hP.sub [0] rfl) (hD.sub [0] (by decide) rfl) (rfl) dX9_triesBits_15
set_option maxHeartbeats 4000000 in
set_option maxRecDepth 100000 in
theorem k0_X9_triesBits_8 (l : Launch) (D : va_G) (cI cJ : ClassId) (m0 : Nat) (a_row : Nat) (a_tape : Nat) (a_number : Nat) (a_read : Nat) (a_readBits : Nat) (a_stands : Nat) (a_parted : Nat) (a_bitsWere : Nat) (a_stood : Nat) (a_chosen : Nat) (a_bestChosen : Nat) (a_often : Nat) (a_sorted : Nat) (a_risen : Nat) (a_risenWays : Nat) (i_thrown : Int32) (i_told : Int32) (i_taped : Int32) (i_at : Int32) (i_to : Int32) (i_readMany : Int32) (i_size : Int32) (f : Nat → Int32) (g : Nat → Int32) : ctV l yX9_triesBits wsX9_triesBits ({ frames := 0, cells := 0, slots := 0, locals := 0 } : Room) D (tyIJ cI cJ) [.ref m0, .int 8, .int 255, .int 0] [(m0, .inr (9, [.int i_thrown, .int i_told, .ref a_row, .ref a_tape, .int i_taped, .int i_at, .int i_to, .int 0, .ref a_number, .ref a_read, .int i_readMany, .ref a_readBits, .ref a_stands, .ref a_parted, .ref a_bitsWere, .ref a_stood, .ref a_chosen, .ref a_bestChosen, .int (-1), .ref a_often, .ref a_sorted, .int i_size, .ref a_risen, .ref a_risenWays])), (a_chosen, .inl (cI, 8, .inl f)), (a_bestChosen, .inl (cI, 8, .inl g))] (fun (u : va_W) => ∃ (f' : Nat → Int32) (g' : Nat → Int32), u = [(m0, .inr (9, [.int i_thrown, .int i_told, .ref a_row, .ref a_tape, .int i_taped, .int i_at, .int i_to, .int 0, .ref a_number, .ref a_read, .int i_readMany, .ref a_readBits, .ref a_stands, .ref a_parted, .ref a_bitsWere, .ref a_stood, .ref a_chosen, .ref a_bestChosen, .int 0, .ref a_often, .ref a_sorted, .int i_size, .ref a_risen, .ref a_risenWays])), (a_chosen, .inl (cI, 8, .inl f')), (a_bestChosen, .inl (cI, 8, .inl g'))]) := by
  refine ctV.of (cc := cX9_triesBits) (maxL := 7) (ret := none) (by decide) rfl (Nat.le_of_ble_eq_true rfl) ?_
  intro p e s m below meth c ls A hx hb hr hts hown hml hlocks hname hA hK hN hP hD hS hl
  have hl : lv_has ls 7 [(0, .ref m0), (1, .int 8), (2, .int 255), (3, .int 0)] := hl
  have hown : s.vm.findClass RX9 = some m.cls := hown
  have hi9 : ∀ w ∈ u_ws RX9 TX9 24, w ∈ wsX9_triesBits := by decide +kernel
  have fl162 := hts (.fieldLink RX9 162 "PlaneColumnModel" "fewest" "I") (by decide +kernel)
  have fl70 := hts (.fieldLink RX9 70 "PlaneColumnModel" "chosen" "[I") (by decide +kernel)
  have fl73 := hts (.fieldLink RX9 73 "PlaneColumnModel" "bestChosen" "[I") (by decide +kernel)
  refine lv_aload_n hx hb dX9_triesBits_0 rfl (lv_at hl 0 rfl) ?_
  refine va_get (ci := 9) (v := .int (-1)) (C := RX9) (T := TX9) (N := 24) hx hb hts hi9 hown hK hP 0 rfl rfl 18 (by decide) fl162 (fun _ h9 => h9) rfl dX9_triesBits_1 ?_
  refine lv_if_lt (tgt := 16) hx hb dX9_triesBits_4 (by decide) (fun c4 => ?_) (fun c4 => ?_)
  ·
    refine lv_iload_n hx hb dX9_triesBits_16 rfl (lv_at hl 1 rfl) ?_
    refine lv_bipush (v := 8) hx hb dX9_triesBits_17 (by decide +kernel) ?_
    refine lv_icmp_ne (tgt := 58) hx hb dX9_triesBits_19 (by decide) (fun c19 => ?_) (fun c19 => ?_)
    ·
      exact absurd c19 (by decide +kernel)
    ·
      refine lv_aload_n hx hb dX9_triesBits_22 rfl (lv_at hl 0 rfl) ?_
      refine lv_iload_n hx hb dX9_triesBits_23 rfl (lv_at hl 3 rfl) ?_
      refine va_put (ci := 9) (v := .int 0) (ty := (.int)) (C := RX9) (T := TX9) (N := 24) hx hb hts hi9 tyX9 tyX9_ok nmX9 hown hK hP hD hS 0 rfl rfl 18 (by decide) fl162 (fun _ h9 => h9) rfl (by decide +kernel) rfl rfl (Nat.le_of_ble_eq_true rfl) dX9_triesBits_24 (fun H locs hP hD hS => ?_)
      have hP : va_P D vwCl [(m0, .inr (9, [.int i_thrown, .int i_told, .ref a_row, .ref a_tape, .int i_taped, .int i_at, .int i_to, .int 0, .ref a_number, .ref a_read, .int i_readMany, .ref a_readBits, .ref a_stands, .ref a_parted, .ref a_bitsWere, .ref a_stood, .ref a_chosen, .ref a_bestChosen, .int 0, .ref a_often, .ref a_sorted, .int i_size, .ref a_risen, .ref a_risenWays])), (a_chosen, .inl (cI, 8, .inl f)), (a_bestChosen, .inl (cI, 8, .inl g))] H := hP
      have hD : va_D A [(m0, .inr (9, [.int i_thrown, .int i_told, .ref a_row, .ref a_tape, .int i_taped, .int i_at, .int i_to, .int 0, .ref a_number, .ref a_read, .int i_readMany, .ref a_readBits, .ref a_stands, .ref a_parted, .ref a_bitsWere, .ref a_stood, .ref a_chosen, .ref a_bestChosen, .int 0, .ref a_often, .ref a_sorted, .int i_size, .ref a_risen, .ref a_risenWays])), (a_chosen, .inl (cI, 8, .inl f)), (a_bestChosen, .inl (cI, 8, .inl g))] := hD
      refine lv_iconst (v := 0) hx hb dX9_triesBits_27 (by decide +kernel) ?_
      refine lv_istore (lv' := [(4, .int 0), (0, .ref m0), (1, .int 8), (2, .int 255), (3, .int 0)]) hx hb dX9_triesBits_28 hl (by decide) rfl (fun ls hl => ?_)
      refine lv_iload hx hb dX9_triesBits_30 (lv_at hl 0 rfl) ?_
      refine lv_bipush (v := 8) hx hb dX9_triesBits_32 (by decide +kernel) ?_
      refine lv_icmp_ge (tgt := 57) hx hb dX9_triesBits_34 (by decide) (fun c34 => ?_) (fun c34 => ?_)
      ·
        exact absurd c34 (by decide +kernel)
      ·
        refine lv_aload_n hx hb dX9_triesBits_37 rfl (lv_at hl 1 rfl) ?_
        refine va_get (ci := 9) (v := .ref a_bestChosen) (C := RX9) (T := TX9) (N := 24) hx hb hts hi9 hown hK hP 0 rfl rfl 17 (by decide) fl73 (fun _ h9 => h9) rfl dX9_triesBits_38 ?_
        refine lv_iload hx hb dX9_triesBits_41 (lv_at hl 0 rfl) ?_
        refine lv_aload_n hx hb dX9_triesBits_43 rfl (lv_at hl 1 rfl) ?_
        refine va_get (ci := 9) (v := .ref a_chosen) (C := RX9) (T := TX9) (N := 24) hx hb hts hi9 hown hK hP 0 rfl rfl 16 (by decide) fl70 (fun _ h9 => h9) rfl dX9_triesBits_44 ?_
        refine lv_iload hx hb dX9_triesBits_47 (lv_at hl 0 rfl) ?_
        refine va_iald hx hb hK hP 1 0 rfl rfl (vp_in_nI (n := 0) (by omega) (by omega)) dX9_triesBits_49 ?_
        refine my_eqi (y := f 0) (congrArg f (show (0 : Int32).toNatClampNeg = 0 by decide +kernel)) ?_
        refine va_iast hx hb hK hP hD hS 2 0 rfl rfl (vp_in_nI (n := 0) (by omega) (by omega)) dX9_triesBits_50 (fun H locs hP hD hS => ?_)
        have eU : upd g (0 : Int32).toNatClampNeg (f 0) = upd g 0 (f 0) := by rw [show (0 : Int32).toNatClampNeg = 0 from by decide +kernel]
        rw [eU] at hP hD
        have hP : va_P D vwCl [(m0, .inr (9, [.int i_thrown, .int i_told, .ref a_row, .ref a_tape, .int i_taped, .int i_at, .int i_to, .int 0, .ref a_number, .ref a_read, .int i_readMany, .ref a_readBits, .ref a_stands, .ref a_parted, .ref a_bitsWere, .ref a_stood, .ref a_chosen, .ref a_bestChosen, .int 0, .ref a_often, .ref a_sorted, .int i_size, .ref a_risen, .ref a_risenWays])), (a_chosen, .inl (cI, 8, .inl f)), (a_bestChosen, .inl (cI, 8, .inl (upd g 0 (f 0))))] H := hP
        have hD : va_D A [(m0, .inr (9, [.int i_thrown, .int i_told, .ref a_row, .ref a_tape, .int i_taped, .int i_at, .int i_to, .int 0, .ref a_number, .ref a_read, .int i_readMany, .ref a_readBits, .ref a_stands, .ref a_parted, .ref a_bitsWere, .ref a_stood, .ref a_chosen, .ref a_bestChosen, .int 0, .ref a_often, .ref a_sorted, .int i_size, .ref a_risen, .ref a_risenWays])), (a_chosen, .inl (cI, 8, .inl f)), (a_bestChosen, .inl (cI, 8, .inl (upd g 0 (f 0))))] := hD
        refine lv_iinc (v := 1) (lv' := [(4, .int 1), (0, .ref m0), (1, .int 8), (2, .int 255), (3, .int 0)]) hx hb dX9_triesBits_51 hl (k := 0) rfl (by decide +kernel) (by decide) rfl (fun ls hl => ?_)
        refine lv_goto (tgt := 30) hx hb dX9_triesBits_54 (by decide) ?_
        refine lv_iload hx hb dX9_triesBits_30 (lv_at hl 0 rfl) ?_
        refine lv_bipush (v := 8) hx hb dX9_triesBits_32 (by decide +kernel) ?_
        refine lv_icmp_ge (tgt := 57) hx hb dX9_triesBits_34 (by decide) (fun c34 => ?_) (fun c34 => ?_)
        ·
          exact absurd c34 (by decide +kernel)
        ·
          refine lv_aload_n hx hb dX9_triesBits_37 rfl (lv_at hl 1 rfl) ?_
          refine va_get (ci := 9) (v := .ref a_bestChosen) (C := RX9) (T := TX9) (N := 24) hx hb hts hi9 hown hK hP 0 rfl rfl 17 (by decide) fl73 (fun _ h9 => h9) rfl dX9_triesBits_38 ?_
          refine lv_iload hx hb dX9_triesBits_41 (lv_at hl 0 rfl) ?_
          refine lv_aload_n hx hb dX9_triesBits_43 rfl (lv_at hl 1 rfl) ?_
          refine va_get (ci := 9) (v := .ref a_chosen) (C := RX9) (T := TX9) (N := 24) hx hb hts hi9 hown hK hP 0 rfl rfl 16 (by decide) fl70 (fun _ h9 => h9) rfl dX9_triesBits_44 ?_
          refine lv_iload hx hb dX9_triesBits_47 (lv_at hl 0 rfl) ?_
          refine va_iald hx hb hK hP 1 0 rfl rfl (vp_in_nI (n := 1) (by omega) (by omega)) dX9_triesBits_49 ?_
          refine my_eqi (y := f 1) (congrArg f (show (1 : Int32).toNatClampNeg = 1 by decide +kernel)) ?_
          refine va_iast hx hb hK hP hD hS 2 0 rfl rfl (vp_in_nI (n := 1) (by omega) (by omega)) dX9_triesBits_50 (fun H locs hP hD hS => ?_)
          have eU : upd (upd g 0 (f 0)) (1 : Int32).toNatClampNeg (f 1) = upd (upd g 0 (f 0)) 1 (f 1) := by rw [show (1 : Int32).toNatClampNeg = 1 from by decide +kernel]
          rw [eU] at hP hD
          have hP : va_P D vwCl [(m0, .inr (9, [.int i_thrown, .int i_told, .ref a_row, .ref a_tape, .int i_taped, .int i_at, .int i_to, .int 0, .ref a_number, .ref a_read, .int i_readMany, .ref a_readBits, .ref a_stands, .ref a_parted, .ref a_bitsWere, .ref a_stood, .ref a_chosen, .ref a_bestChosen, .int 0, .ref a_often, .ref a_sorted, .int i_size, .ref a_risen, .ref a_risenWays])), (a_chosen, .inl (cI, 8, .inl f)), (a_bestChosen, .inl (cI, 8, .inl (upd (upd g 0 (f 0)) 1 (f 1))))] H := hP
          have hD : va_D A [(m0, .inr (9, [.int i_thrown, .int i_told, .ref a_row, .ref a_tape, .int i_taped, .int i_at, .int i_to, .int 0, .ref a_number, .ref a_read, .int i_readMany, .ref a_readBits, .ref a_stands, .ref a_parted, .ref a_bitsWere, .ref a_stood, .ref a_chosen, .ref a_bestChosen, .int 0, .ref a_often, .ref a_sorted, .int i_size, .ref a_risen, .ref a_risenWays])), (a_chosen, .inl (cI, 8, .inl f)), (a_bestChosen, .inl (cI, 8, .inl (upd (upd g 0 (f 0)) 1 (f 1))))] := hD
          refine lv_iinc (v := 2) (lv' := [(4, .int 2), (0, .ref m0), (1, .int 8), (2, .int 255), (3, .int 0)]) hx hb dX9_triesBits_51 hl (k := 0) rfl (by decide +kernel) (by decide) rfl (fun ls hl => ?_)
          refine lv_goto (tgt := 30) hx hb dX9_triesBits_54 (by decide) ?_
          refine lv_iload hx hb dX9_triesBits_30 (lv_at hl 0 rfl) ?_
          refine lv_bipush (v := 8) hx hb dX9_triesBits_32 (by decide +kernel) ?_
          refine lv_icmp_ge (tgt := 57) hx hb dX9_triesBits_34 (by decide) (fun c34 => ?_) (fun c34 => ?_)
          ·
            exact absurd c34 (by decide +kernel)
          ·
            refine lv_aload_n hx hb dX9_triesBits_37 rfl (lv_at hl 1 rfl) ?_
            refine va_get (ci := 9) (v := .ref a_bestChosen) (C := RX9) (T := TX9) (N := 24) hx hb hts hi9 hown hK hP 0 rfl rfl 17 (by decide) fl73 (fun _ h9 => h9) rfl dX9_triesBits_38 ?_
            refine lv_iload hx hb dX9_triesBits_41 (lv_at hl 0 rfl) ?_
            refine lv_aload_n hx hb dX9_triesBits_43 rfl (lv_at hl 1 rfl) ?_
            refine va_get (ci := 9) (v := .ref a_chosen) (C := RX9) (T := TX9) (N := 24) hx hb hts hi9 hown hK hP 0 rfl rfl 16 (by decide) fl70 (fun _ h9 => h9) rfl dX9_triesBits_44 ?_
            refine lv_iload hx hb dX9_triesBits_47 (lv_at hl 0 rfl) ?_
            refine va_iald hx hb hK hP 1 0 rfl rfl (vp_in_nI (n := 2) (by omega) (by omega)) dX9_triesBits_49 ?_
            refine my_eqi (y := f 2) (congrArg f (show (2 : Int32).toNatClampNeg = 2 by decide +kernel)) ?_
            refine va_iast hx hb hK hP hD hS 2 0 rfl rfl (vp_in_nI (n := 2) (by omega) (by omega)) dX9_triesBits_50 (fun H locs hP hD hS => ?_)
            have eU : upd (upd (upd g 0 (f 0)) 1 (f 1)) (2 : Int32).toNatClampNeg (f 2) = upd (upd (upd g 0 (f 0)) 1 (f 1)) 2 (f 2) := by rw [show (2 : Int32).toNatClampNeg = 2 from by decide +kernel]
            rw [eU] at hP hD
            have hP : va_P D vwCl [(m0, .inr (9, [.int i_thrown, .int i_told, .ref a_row, .ref a_tape, .int i_taped, .int i_at, .int i_to, .int 0, .ref a_number, .ref a_read, .int i_readMany, .ref a_readBits, .ref a_stands, .ref a_parted, .ref a_bitsWere, .ref a_stood, .ref a_chosen, .ref a_bestChosen, .int 0, .ref a_often, .ref a_sorted, .int i_size, .ref a_risen, .ref a_risenWays])), (a_chosen, .inl (cI, 8, .inl f)), (a_bestChosen, .inl (cI, 8, .inl (upd (upd (upd g 0 (f 0)) 1 (f 1)) 2 (f 2))))] H := hP
            have hD : va_D A [(m0, .inr (9, [.int i_thrown, .int i_told, .ref a_row, .ref a_tape, .int i_taped, .int i_at, .int i_to, .int 0, .ref a_number, .ref a_read, .int i_readMany, .ref a_readBits, .ref a_stands, .ref a_parted, .ref a_bitsWere, .ref a_stood, .ref a_chosen, .ref a_bestChosen, .int 0, .ref a_often, .ref a_sorted, .int i_size, .ref a_risen, .ref a_risenWays])), (a_chosen, .inl (cI, 8, .inl f)), (a_bestChosen, .inl (cI, 8, .inl (upd (upd (upd g 0 (f 0)) 1 (f 1)) 2 (f 2))))] := hD
            refine lv_iinc (v := 3) (lv' := [(4, .int 3), (0, .ref m0), (1, .int 8), (2, .int 255), (3, .int 0)]) hx hb dX9_triesBits_51 hl (k := 0) rfl (by decide +kernel) (by decide) rfl (fun ls hl => ?_)
            refine lv_goto (tgt := 30) hx hb dX9_triesBits_54 (by decide) ?_
            refine lv_iload hx hb dX9_triesBits_30 (lv_at hl 0 rfl) ?_
            refine lv_bipush (v := 8) hx hb dX9_triesBits_32 (by decide +kernel) ?_
            refine lv_icmp_ge (tgt := 57) hx hb dX9_triesBits_34 (by decide) (fun c34 => ?_) (fun c34 => ?_)
            ·
              exact absurd c34 (by decide +kernel)
            ·
              refine lv_aload_n hx hb dX9_triesBits_37 rfl (lv_at hl 1 rfl) ?_
              refine va_get (ci := 9) (v := .ref a_bestChosen) (C := RX9) (T := TX9) (N := 24) hx hb hts hi9 hown hK hP 0 rfl rfl 17 (by decide) fl73 (fun _ h9 => h9) rfl dX9_triesBits_38 ?_
              refine lv_iload hx hb dX9_triesBits_41 (lv_at hl 0 rfl) ?_
              refine lv_aload_n hx hb dX9_triesBits_43 rfl (lv_at hl 1 rfl) ?_
              refine va_get (ci := 9) (v := .ref a_chosen) (C := RX9) (T := TX9) (N := 24) hx hb hts hi9 hown hK hP 0 rfl rfl 16 (by decide) fl70 (fun _ h9 => h9) rfl dX9_triesBits_44 ?_
              refine lv_iload hx hb dX9_triesBits_47 (lv_at hl 0 rfl) ?_
              refine va_iald hx hb hK hP 1 0 rfl rfl (vp_in_nI (n := 3) (by omega) (by omega)) dX9_triesBits_49 ?_
              refine my_eqi (y := f 3) (congrArg f (show (3 : Int32).toNatClampNeg = 3 by decide +kernel)) ?_
              refine va_iast hx hb hK hP hD hS 2 0 rfl rfl (vp_in_nI (n := 3) (by omega) (by omega)) dX9_triesBits_50 (fun H locs hP hD hS => ?_)
              have eU : upd (upd (upd (upd g 0 (f 0)) 1 (f 1)) 2 (f 2)) (3 : Int32).toNatClampNeg (f 3) = upd (upd (upd (upd g 0 (f 0)) 1 (f 1)) 2 (f 2)) 3 (f 3) := by rw [show (3 : Int32).toNatClampNeg = 3 from by decide +kernel]
              rw [eU] at hP hD
              have hP : va_P D vwCl [(m0, .inr (9, [.int i_thrown, .int i_told, .ref a_row, .ref a_tape, .int i_taped, .int i_at, .int i_to, .int 0, .ref a_number, .ref a_read, .int i_readMany, .ref a_readBits, .ref a_stands, .ref a_parted, .ref a_bitsWere, .ref a_stood, .ref a_chosen, .ref a_bestChosen, .int 0, .ref a_often, .ref a_sorted, .int i_size, .ref a_risen, .ref a_risenWays])), (a_chosen, .inl (cI, 8, .inl f)), (a_bestChosen, .inl (cI, 8, .inl (upd (upd (upd (upd g 0 (f 0)) 1 (f 1)) 2 (f 2)) 3 (f 3))))] H := hP
              have hD : va_D A [(m0, .inr (9, [.int i_thrown, .int i_told, .ref a_row, .ref a_tape, .int i_taped, .int i_at, .int i_to, .int 0, .ref a_number, .ref a_read, .int i_readMany, .ref a_readBits, .ref a_stands, .ref a_parted, .ref a_bitsWere, .ref a_stood, .ref a_chosen, .ref a_bestChosen, .int 0, .ref a_often, .ref a_sorted, .int i_size, .ref a_risen, .ref a_risenWays])), (a_chosen, .inl (cI, 8, .inl f)), (a_bestChosen, .inl (cI, 8, .inl (upd (upd (upd (upd g 0 (f 0)) 1 (f 1)) 2 (f 2)) 3 (f 3))))] := hD
              refine lv_iinc (v := 4) (lv' := [(4, .int 4), (0, .ref m0), (1, .int 8), (2, .int 255), (3, .int 0)]) hx hb dX9_triesBits_51 hl (k := 0) rfl (by decide +kernel) (by decide) rfl (fun ls hl => ?_)
              refine lv_goto (tgt := 30) hx hb dX9_triesBits_54 (by decide) ?_
              refine lv_iload hx hb dX9_triesBits_30 (lv_at hl 0 rfl) ?_
              refine lv_bipush (v := 8) hx hb dX9_triesBits_32 (by decide +kernel) ?_
              refine lv_icmp_ge (tgt := 57) hx hb dX9_triesBits_34 (by decide) (fun c34 => ?_) (fun c34 => ?_)
              ·
                exact absurd c34 (by decide +kernel)
              ·
                refine lv_aload_n hx hb dX9_triesBits_37 rfl (lv_at hl 1 rfl) ?_
                refine va_get (ci := 9) (v := .ref a_bestChosen) (C := RX9) (T := TX9) (N := 24) hx hb hts hi9 hown hK hP 0 rfl rfl 17 (by decide) fl73 (fun _ h9 => h9) rfl dX9_triesBits_38 ?_
                refine lv_iload hx hb dX9_triesBits_41 (lv_at hl 0 rfl) ?_
                refine lv_aload_n hx hb dX9_triesBits_43 rfl (lv_at hl 1 rfl) ?_
                refine va_get (ci := 9) (v := .ref a_chosen) (C := RX9) (T := TX9) (N := 24) hx hb hts hi9 hown hK hP 0 rfl rfl 16 (by decide) fl70 (fun _ h9 => h9) rfl dX9_triesBits_44 ?_
                refine lv_iload hx hb dX9_triesBits_47 (lv_at hl 0 rfl) ?_
                refine va_iald hx hb hK hP 1 0 rfl rfl (vp_in_nI (n := 4) (by omega) (by omega)) dX9_triesBits_49 ?_
                refine my_eqi (y := f 4) (congrArg f (show (4 : Int32).toNatClampNeg = 4 by decide +kernel)) ?_
                refine va_iast hx hb hK hP hD hS 2 0 rfl rfl (vp_in_nI (n := 4) (by omega) (by omega)) dX9_triesBits_50 (fun H locs hP hD hS => ?_)
                have eU : upd (upd (upd (upd (upd g 0 (f 0)) 1 (f 1)) 2 (f 2)) 3 (f 3)) (4 : Int32).toNatClampNeg (f 4) = upd (upd (upd (upd (upd g 0 (f 0)) 1 (f 1)) 2 (f 2)) 3 (f 3)) 4 (f 4) := by rw [show (4 : Int32).toNatClampNeg = 4 from by decide +kernel]
                rw [eU] at hP hD
                have hP : va_P D vwCl [(m0, .inr (9, [.int i_thrown, .int i_told, .ref a_row, .ref a_tape, .int i_taped, .int i_at, .int i_to, .int 0, .ref a_number, .ref a_read, .int i_readMany, .ref a_readBits, .ref a_stands, .ref a_parted, .ref a_bitsWere, .ref a_stood, .ref a_chosen, .ref a_bestChosen, .int 0, .ref a_often, .ref a_sorted, .int i_size, .ref a_risen, .ref a_risenWays])), (a_chosen, .inl (cI, 8, .inl f)), (a_bestChosen, .inl (cI, 8, .inl (upd (upd (upd (upd (upd g 0 (f 0)) 1 (f 1)) 2 (f 2)) 3 (f 3)) 4 (f 4))))] H := hP
                have hD : va_D A [(m0, .inr (9, [.int i_thrown, .int i_told, .ref a_row, .ref a_tape, .int i_taped, .int i_at, .int i_to, .int 0, .ref a_number, .ref a_read, .int i_readMany, .ref a_readBits, .ref a_stands, .ref a_parted, .ref a_bitsWere, .ref a_stood, .ref a_chosen, .ref a_bestChosen, .int 0, .ref a_often, .ref a_sorted, .int i_size, .ref a_risen, .ref a_risenWays])), (a_chosen, .inl (cI, 8, .inl f)), (a_bestChosen, .inl (cI, 8, .inl (upd (upd (upd (upd (upd g 0 (f 0)) 1 (f 1)) 2 (f 2)) 3 (f 3)) 4 (f 4))))] := hD
                refine lv_iinc (v := 5) (lv' := [(4, .int 5), (0, .ref m0), (1, .int 8), (2, .int 255), (3, .int 0)]) hx hb dX9_triesBits_51 hl (k := 0) rfl (by decide +kernel) (by decide) rfl (fun ls hl => ?_)
                refine lv_goto (tgt := 30) hx hb dX9_triesBits_54 (by decide) ?_
                refine lv_iload hx hb dX9_triesBits_30 (lv_at hl 0 rfl) ?_
                refine lv_bipush (v := 8) hx hb dX9_triesBits_32 (by decide +kernel) ?_
                refine lv_icmp_ge (tgt := 57) hx hb dX9_triesBits_34 (by decide) (fun c34 => ?_) (fun c34 => ?_)
                ·
                  exact absurd c34 (by decide +kernel)
                ·
                  refine lv_aload_n hx hb dX9_triesBits_37 rfl (lv_at hl 1 rfl) ?_
                  refine va_get (ci := 9) (v := .ref a_bestChosen) (C := RX9) (T := TX9) (N := 24) hx hb hts hi9 hown hK hP 0 rfl rfl 17 (by decide) fl73 (fun _ h9 => h9) rfl dX9_triesBits_38 ?_
                  refine lv_iload hx hb dX9_triesBits_41 (lv_at hl 0 rfl) ?_
                  refine lv_aload_n hx hb dX9_triesBits_43 rfl (lv_at hl 1 rfl) ?_
                  refine va_get (ci := 9) (v := .ref a_chosen) (C := RX9) (T := TX9) (N := 24) hx hb hts hi9 hown hK hP 0 rfl rfl 16 (by decide) fl70 (fun _ h9 => h9) rfl dX9_triesBits_44 ?_
                  refine lv_iload hx hb dX9_triesBits_47 (lv_at hl 0 rfl) ?_
                  refine va_iald hx hb hK hP 1 0 rfl rfl (vp_in_nI (n := 5) (by omega) (by omega)) dX9_triesBits_49 ?_
                  refine my_eqi (y := f 5) (congrArg f (show (5 : Int32).toNatClampNeg = 5 by decide +kernel)) ?_
                  refine va_iast hx hb hK hP hD hS 2 0 rfl rfl (vp_in_nI (n := 5) (by omega) (by omega)) dX9_triesBits_50 (fun H locs hP hD hS => ?_)
                  have eU : upd (upd (upd (upd (upd (upd g 0 (f 0)) 1 (f 1)) 2 (f 2)) 3 (f 3)) 4 (f 4)) (5 : Int32).toNatClampNeg (f 5) = upd (upd (upd (upd (upd (upd g 0 (f 0)) 1 (f 1)) 2 (f 2)) 3 (f 3)) 4 (f 4)) 5 (f 5) := by rw [show (5 : Int32).toNatClampNeg = 5 from by decide +kernel]
                  rw [eU] at hP hD
                  have hP : va_P D vwCl [(m0, .inr (9, [.int i_thrown, .int i_told, .ref a_row, .ref a_tape, .int i_taped, .int i_at, .int i_to, .int 0, .ref a_number, .ref a_read, .int i_readMany, .ref a_readBits, .ref a_stands, .ref a_parted, .ref a_bitsWere, .ref a_stood, .ref a_chosen, .ref a_bestChosen, .int 0, .ref a_often, .ref a_sorted, .int i_size, .ref a_risen, .ref a_risenWays])), (a_chosen, .inl (cI, 8, .inl f)), (a_bestChosen, .inl (cI, 8, .inl (upd (upd (upd (upd (upd (upd g 0 (f 0)) 1 (f 1)) 2 (f 2)) 3 (f 3)) 4 (f 4)) 5 (f 5))))] H := hP
                  have hD : va_D A [(m0, .inr (9, [.int i_thrown, .int i_told, .ref a_row, .ref a_tape, .int i_taped, .int i_at, .int i_to, .int 0, .ref a_number, .ref a_read, .int i_readMany, .ref a_readBits, .ref a_stands, .ref a_parted, .ref a_bitsWere, .ref a_stood, .ref a_chosen, .ref a_bestChosen, .int 0, .ref a_often, .ref a_sorted, .int i_size, .ref a_risen, .ref a_risenWays])), (a_chosen, .inl (cI, 8, .inl f)), (a_bestChosen, .inl (cI, 8, .inl (upd (upd (upd (upd (upd (upd g 0 (f 0)) 1 (f 1)) 2 (f 2)) 3 (f 3)) 4 (f 4)) 5 (f 5))))] := hD
                  refine lv_iinc (v := 6) (lv' := [(4, .int 6), (0, .ref m0), (1, .int 8), (2, .int 255), (3, .int 0)]) hx hb dX9_triesBits_51 hl (k := 0) rfl (by decide +kernel) (by decide) rfl (fun ls hl => ?_)
                  refine lv_goto (tgt := 30) hx hb dX9_triesBits_54 (by decide) ?_
                  refine lv_iload hx hb dX9_triesBits_30 (lv_at hl 0 rfl) ?_
                  refine lv_bipush (v := 8) hx hb dX9_triesBits_32 (by decide +kernel) ?_
                  refine lv_icmp_ge (tgt := 57) hx hb dX9_triesBits_34 (by decide) (fun c34 => ?_) (fun c34 => ?_)
                  ·
                    exact absurd c34 (by decide +kernel)
                  ·
                    refine lv_aload_n hx hb dX9_triesBits_37 rfl (lv_at hl 1 rfl) ?_
                    refine va_get (ci := 9) (v := .ref a_bestChosen) (C := RX9) (T := TX9) (N := 24) hx hb hts hi9 hown hK hP 0 rfl rfl 17 (by decide) fl73 (fun _ h9 => h9) rfl dX9_triesBits_38 ?_
                    refine lv_iload hx hb dX9_triesBits_41 (lv_at hl 0 rfl) ?_
                    refine lv_aload_n hx hb dX9_triesBits_43 rfl (lv_at hl 1 rfl) ?_
                    refine va_get (ci := 9) (v := .ref a_chosen) (C := RX9) (T := TX9) (N := 24) hx hb hts hi9 hown hK hP 0 rfl rfl 16 (by decide) fl70 (fun _ h9 => h9) rfl dX9_triesBits_44 ?_
                    refine lv_iload hx hb dX9_triesBits_47 (lv_at hl 0 rfl) ?_
                    refine va_iald hx hb hK hP 1 0 rfl rfl (vp_in_nI (n := 6) (by omega) (by omega)) dX9_triesBits_49 ?_
                    refine my_eqi (y := f 6) (congrArg f (show (6 : Int32).toNatClampNeg = 6 by decide +kernel)) ?_
                    refine va_iast hx hb hK hP hD hS 2 0 rfl rfl (vp_in_nI (n := 6) (by omega) (by omega)) dX9_triesBits_50 (fun H locs hP hD hS => ?_)
                    have eU : upd (upd (upd (upd (upd (upd (upd g 0 (f 0)) 1 (f 1)) 2 (f 2)) 3 (f 3)) 4 (f 4)) 5 (f 5)) (6 : Int32).toNatClampNeg (f 6) = upd (upd (upd (upd (upd (upd (upd g 0 (f 0)) 1 (f 1)) 2 (f 2)) 3 (f 3)) 4 (f 4)) 5 (f 5)) 6 (f 6) := by rw [show (6 : Int32).toNatClampNeg = 6 from by decide +kernel]
                    rw [eU] at hP hD
                    have hP : va_P D vwCl [(m0, .inr (9, [.int i_thrown, .int i_told, .ref a_row, .ref a_tape, .int i_taped, .int i_at, .int i_to, .int 0, .ref a_number, .ref a_read, .int i_readMany, .ref a_readBits, .ref a_stands, .ref a_parted, .ref a_bitsWere, .ref a_stood, .ref a_chosen, .ref a_bestChosen, .int 0, .ref a_often, .ref a_sorted, .int i_size, .ref a_risen, .ref a_risenWays])), (a_chosen, .inl (cI, 8, .inl f)), (a_bestChosen, .inl (cI, 8, .inl (upd (upd (upd (upd (upd (upd (upd g 0 (f 0)) 1 (f 1)) 2 (f 2)) 3 (f 3)) 4 (f 4)) 5 (f 5)) 6 (f 6))))] H := hP
                    have hD : va_D A [(m0, .inr (9, [.int i_thrown, .int i_told, .ref a_row, .ref a_tape, .int i_taped, .int i_at, .int i_to, .int 0, .ref a_number, .ref a_read, .int i_readMany, .ref a_readBits, .ref a_stands, .ref a_parted, .ref a_bitsWere, .ref a_stood, .ref a_chosen, .ref a_bestChosen, .int 0, .ref a_often, .ref a_sorted, .int i_size, .ref a_risen, .ref a_risenWays])), (a_chosen, .inl (cI, 8, .inl f)), (a_bestChosen, .inl (cI, 8, .inl (upd (upd (upd (upd (upd (upd (upd g 0 (f 0)) 1 (f 1)) 2 (f 2)) 3 (f 3)) 4 (f 4)) 5 (f 5)) 6 (f 6))))] := hD
                    refine lv_iinc (v := 7) (lv' := [(4, .int 7), (0, .ref m0), (1, .int 8), (2, .int 255), (3, .int 0)]) hx hb dX9_triesBits_51 hl (k := 0) rfl (by decide +kernel) (by decide) rfl (fun ls hl => ?_)
                    refine lv_goto (tgt := 30) hx hb dX9_triesBits_54 (by decide) ?_
                    refine lv_iload hx hb dX9_triesBits_30 (lv_at hl 0 rfl) ?_
                    refine lv_bipush (v := 8) hx hb dX9_triesBits_32 (by decide +kernel) ?_
                    refine lv_icmp_ge (tgt := 57) hx hb dX9_triesBits_34 (by decide) (fun c34 => ?_) (fun c34 => ?_)
                    ·
                      exact absurd c34 (by decide +kernel)
                    ·
                      refine lv_aload_n hx hb dX9_triesBits_37 rfl (lv_at hl 1 rfl) ?_
                      refine va_get (ci := 9) (v := .ref a_bestChosen) (C := RX9) (T := TX9) (N := 24) hx hb hts hi9 hown hK hP 0 rfl rfl 17 (by decide) fl73 (fun _ h9 => h9) rfl dX9_triesBits_38 ?_
                      refine lv_iload hx hb dX9_triesBits_41 (lv_at hl 0 rfl) ?_
                      refine lv_aload_n hx hb dX9_triesBits_43 rfl (lv_at hl 1 rfl) ?_
                      refine va_get (ci := 9) (v := .ref a_chosen) (C := RX9) (T := TX9) (N := 24) hx hb hts hi9 hown hK hP 0 rfl rfl 16 (by decide) fl70 (fun _ h9 => h9) rfl dX9_triesBits_44 ?_
                      refine lv_iload hx hb dX9_triesBits_47 (lv_at hl 0 rfl) ?_
                      refine va_iald hx hb hK hP 1 0 rfl rfl (vp_in_nI (n := 7) (by omega) (by omega)) dX9_triesBits_49 ?_
                      refine my_eqi (y := f 7) (congrArg f (show (7 : Int32).toNatClampNeg = 7 by decide +kernel)) ?_
                      refine va_iast hx hb hK hP hD hS 2 0 rfl rfl (vp_in_nI (n := 7) (by omega) (by omega)) dX9_triesBits_50 (fun H locs hP hD hS => ?_)
                      have eU : upd (upd (upd (upd (upd (upd (upd (upd g 0 (f 0)) 1 (f 1)) 2 (f 2)) 3 (f 3)) 4 (f 4)) 5 (f 5)) 6 (f 6)) (7 : Int32).toNatClampNeg (f 7) = upd (upd (upd (upd (upd (upd (upd (upd g 0 (f 0)) 1 (f 1)) 2 (f 2)) 3 (f 3)) 4 (f 4)) 5 (f 5)) 6 (f 6)) 7 (f 7) := by rw [show (7 : Int32).toNatClampNeg = 7 from by decide +kernel]
                      rw [eU] at hP hD
                      have hP : va_P D vwCl [(m0, .inr (9, [.int i_thrown, .int i_told, .ref a_row, .ref a_tape, .int i_taped, .int i_at, .int i_to, .int 0, .ref a_number, .ref a_read, .int i_readMany, .ref a_readBits, .ref a_stands, .ref a_parted, .ref a_bitsWere, .ref a_stood, .ref a_chosen, .ref a_bestChosen, .int 0, .ref a_often, .ref a_sorted, .int i_size, .ref a_risen, .ref a_risenWays])), (a_chosen, .inl (cI, 8, .inl f)), (a_bestChosen, .inl (cI, 8, .inl (upd (upd (upd (upd (upd (upd (upd (upd g 0 (f 0)) 1 (f 1)) 2 (f 2)) 3 (f 3)) 4 (f 4)) 5 (f 5)) 6 (f 6)) 7 (f 7))))] H := hP
                      have hD : va_D A [(m0, .inr (9, [.int i_thrown, .int i_told, .ref a_row, .ref a_tape, .int i_taped, .int i_at, .int i_to, .int 0, .ref a_number, .ref a_read, .int i_readMany, .ref a_readBits, .ref a_stands, .ref a_parted, .ref a_bitsWere, .ref a_stood, .ref a_chosen, .ref a_bestChosen, .int 0, .ref a_often, .ref a_sorted, .int i_size, .ref a_risen, .ref a_risenWays])), (a_chosen, .inl (cI, 8, .inl f)), (a_bestChosen, .inl (cI, 8, .inl (upd (upd (upd (upd (upd (upd (upd (upd g 0 (f 0)) 1 (f 1)) 2 (f 2)) 3 (f 3)) 4 (f 4)) 5 (f 5)) 6 (f 6)) 7 (f 7))))] := hD
                      refine lv_iinc (v := 8) (lv' := [(4, .int 8), (0, .ref m0), (1, .int 8), (2, .int 255), (3, .int 0)]) hx hb dX9_triesBits_51 hl (k := 0) rfl (by decide +kernel) (by decide) rfl (fun ls hl => ?_)
                      refine lv_goto (tgt := 30) hx hb dX9_triesBits_54 (by decide) ?_
                      refine lv_iload hx hb dX9_triesBits_30 (lv_at hl 0 rfl) ?_
                      refine lv_bipush (v := 8) hx hb dX9_triesBits_32 (by decide +kernel) ?_
                      refine lv_icmp_ge (tgt := 57) hx hb dX9_triesBits_34 (by decide) (fun c34 => ?_) (fun c34 => ?_)
                      ·
                        exact my_retV hx hb hr hlocks hK hS [(m0, .inr (9, [.int i_thrown, .int i_told, .ref a_row, .ref a_tape, .int i_taped, .int i_at, .int i_to, .int 0, .ref a_number, .ref a_read, .int i_readMany, .ref a_readBits, .ref a_stands, .ref a_parted, .ref a_bitsWere, .ref a_stood, .ref a_chosen, .ref a_bestChosen, .int 0, .ref a_often, .ref a_sorted, .int i_size, .ref a_risen, .ref a_risenWays])), (a_chosen, .inl (cI, 8, .inl f)), (a_bestChosen, .inl (cI, 8, .inl (upd (upd (upd (upd (upd (upd (upd (upd g 0 (f 0)) 1 (f 1)) 2 (f 2)) 3 (f 3)) 4 (f 4)) 5 (f 5)) 6 (f 6)) 7 (f 7))))] (hP.sub [0, 1, 2] rfl) (hD.sub [0, 1, 2] (by decide) rfl) (⟨f, (upd (upd (upd (upd (upd (upd (upd (upd g 0 (f 0)) 1 (f 1)) 2 (f 2)) 3 (f 3)) 4 (f 4)) 5 (f 5)) 6 (f 6)) 7 (f 7)), rfl⟩) dX9_triesBits_57
                      ·
                        exact absurd c34 (by decide +kernel)
  ·
    exact absurd c4 (by decide +kernel)
set_option maxHeartbeats 4000000 in
set_option maxRecDepth 100000 in
theorem k0_X9_triesBits_7 (l : Launch) (D : va_G) (cI cJ : ClassId) (m0 : Nat) (a_row : Nat) (a_tape : Nat) (a_number : Nat) (a_read : Nat) (a_readBits : Nat) (a_stands : Nat) (a_parted : Nat) (a_bitsWere : Nat) (a_stood : Nat) (a_chosen : Nat) (a_bestChosen : Nat) (a_often : Nat) (a_sorted : Nat) (a_risen : Nat) (a_risenWays : Nat) (i_thrown : Int32) (i_told : Int32) (i_taped : Int32) (i_at : Int32) (i_to : Int32) (i_readMany : Int32) (i_size : Int32) (f : Nat → Int32) (g : Nat → Int32) : ctV l yX9_triesBits wsX9_triesBits ({ frames := 1, cells := 0, slots := 0, locals := 60 } : Room) D (tyIJ cI cJ) [.ref m0, .int 7, .int 254, .int 0] [(m0, .inr (9, [.int i_thrown, .int i_told, .ref a_row, .ref a_tape, .int i_taped, .int i_at, .int i_to, .int 0, .ref a_number, .ref a_read, .int i_readMany, .ref a_readBits, .ref a_stands, .ref a_parted, .ref a_bitsWere, .ref a_stood, .ref a_chosen, .ref a_bestChosen, .int (-1), .ref a_often, .ref a_sorted, .int i_size, .ref a_risen, .ref a_risenWays])), (a_chosen, .inl (cI, 8, .inl f)), (a_bestChosen, .inl (cI, 8, .inl g))] (fun (u : va_W) => ∃ (f' : Nat → Int32) (g' : Nat → Int32), u = [(m0, .inr (9, [.int i_thrown, .int i_told, .ref a_row, .ref a_tape, .int i_taped, .int i_at, .int i_to, .int 0, .ref a_number, .ref a_read, .int i_readMany, .ref a_readBits, .ref a_stands, .ref a_parted, .ref a_bitsWere, .ref a_stood, .ref a_chosen, .ref a_bestChosen, .int 0, .ref a_often, .ref a_sorted, .int i_size, .ref a_risen, .ref a_risenWays])), (a_chosen, .inl (cI, 8, .inl f')), (a_bestChosen, .inl (cI, 8, .inl g'))]) := by
  refine ctV.of (cc := cX9_triesBits) (maxL := 7) (ret := none) (by decide) rfl (Nat.le_of_ble_eq_true rfl) ?_
  intro p e s m below meth c ls A hx hb hr hts hown hml hlocks hname hA hK hN hP hD hS hl
  have hl : lv_has ls 7 [(0, .ref m0), (1, .int 7), (2, .int 254), (3, .int 0)] := hl
  have hown : s.vm.findClass RX9 = some m.cls := hown
  have hi9 : ∀ w ∈ u_ws RX9 TX9 24, w ∈ wsX9_triesBits := by decide +kernel
  have fl162 := hts (.fieldLink RX9 162 "PlaneColumnModel" "fewest" "I") (by decide +kernel)
  have fl70 := hts (.fieldLink RX9 70 "PlaneColumnModel" "chosen" "[I") (by decide +kernel)
  have fl88 := hts (.fieldLink RX9 88 "PlaneColumnModel" "many" "I") (by decide +kernel)
  refine lv_aload_n hx hb dX9_triesBits_0 rfl (lv_at hl 0 rfl) ?_
  refine va_get (ci := 9) (v := .int (-1)) (C := RX9) (T := TX9) (N := 24) hx hb hts hi9 hown hK hP 0 rfl rfl 18 (by decide) fl162 (fun _ h9 => h9) rfl dX9_triesBits_1 ?_
  refine lv_if_lt (tgt := 16) hx hb dX9_triesBits_4 (by decide) (fun c4 => ?_) (fun c4 => ?_)
  ·
    refine lv_iload_n hx hb dX9_triesBits_16 rfl (lv_at hl 1 rfl) ?_
    refine lv_bipush (v := 8) hx hb dX9_triesBits_17 (by decide +kernel) ?_
    refine lv_icmp_ne (tgt := 58) hx hb dX9_triesBits_19 (by decide) (fun c19 => ?_) (fun c19 => ?_)
    ·
      refine lv_iconst (v := 0) hx hb dX9_triesBits_58 (by decide +kernel) ?_
      refine lv_istore (lv' := [(4, .int 0), (0, .ref m0), (1, .int 7), (2, .int 254), (3, .int 0)]) hx hb dX9_triesBits_59 hl (by decide) rfl (fun ls hl => ?_)
      refine lv_iload hx hb dX9_triesBits_61 (lv_at hl 0 rfl) ?_
      refine lv_aload_n hx hb dX9_triesBits_63 rfl (lv_at hl 1 rfl) ?_
      refine va_get (ci := 9) (v := .int 0) (C := RX9) (T := TX9) (N := 24) hx hb hts hi9 hown hK hP 0 rfl rfl 7 (by decide) fl88 (fun _ h9 => h9) rfl dX9_triesBits_64 ?_
      refine lv_icmp_ge (tgt := 95) hx hb dX9_triesBits_67 (by decide) (fun c67 => ?_) (fun c67 => ?_)
      ·
        refine lv_bipush (v := 7) hx hb dX9_triesBits_95 (by decide +kernel) ?_
        refine lv_istore (lv' := [(4, .int 7), (0, .ref m0), (1, .int 7), (2, .int 254), (3, .int 0)]) hx hb dX9_triesBits_97 hl (by decide) rfl (fun ls hl => ?_)
        refine lv_iload hx hb dX9_triesBits_99 (lv_at hl 0 rfl) ?_
        refine lv_if_lt (tgt := 195) hx hb dX9_triesBits_101 (by decide) (fun c101 => ?_) (fun c101 => ?_)
        ·
          exact absurd c101 (by decide +kernel)
        ·
          refine lv_iload_n hx hb dX9_triesBits_104 rfl (lv_at hl 3 rfl) ?_
          refine lv_iload hx hb dX9_triesBits_105 (lv_at hl 0 rfl) ?_
          refine lv_ishr hx hb dX9_triesBits_107 ?_
          refine my_eqi (y := 1) (by decide +kernel) ?_
          refine lv_iconst (v := 1) hx hb dX9_triesBits_108 (by decide +kernel) ?_
          refine lv_iand hx hb dX9_triesBits_109 ?_
          refine my_eqi (y := 1) (by decide +kernel) ?_
          refine lv_if_ne (tgt := 189) hx hb dX9_triesBits_110 (by decide) (fun c110 => ?_) (fun c110 => ?_)
          ·
            refine lv_iinc (v := 6) (lv' := [(4, .int 6), (0, .ref m0), (1, .int 7), (2, .int 254), (3, .int 0)]) hx hb dX9_triesBits_189 hl (k := 0) rfl (by decide +kernel) (by decide) rfl (fun ls hl => ?_)
            refine lv_goto (tgt := 99) hx hb dX9_triesBits_192 (by decide) ?_
            refine lv_iload hx hb dX9_triesBits_99 (lv_at hl 0 rfl) ?_
            refine lv_if_lt (tgt := 195) hx hb dX9_triesBits_101 (by decide) (fun c101 => ?_) (fun c101 => ?_)
            ·
              exact absurd c101 (by decide +kernel)
            ·
              refine lv_iload_n hx hb dX9_triesBits_104 rfl (lv_at hl 3 rfl) ?_
              refine lv_iload hx hb dX9_triesBits_105 (lv_at hl 0 rfl) ?_
              refine lv_ishr hx hb dX9_triesBits_107 ?_
              refine my_eqi (y := 3) (by decide +kernel) ?_
              refine lv_iconst (v := 1) hx hb dX9_triesBits_108 (by decide +kernel) ?_
              refine lv_iand hx hb dX9_triesBits_109 ?_
              refine my_eqi (y := 1) (by decide +kernel) ?_
              refine lv_if_ne (tgt := 189) hx hb dX9_triesBits_110 (by decide) (fun c110 => ?_) (fun c110 => ?_)
              ·
                refine lv_iinc (v := 5) (lv' := [(4, .int 5), (0, .ref m0), (1, .int 7), (2, .int 254), (3, .int 0)]) hx hb dX9_triesBits_189 hl (k := 0) rfl (by decide +kernel) (by decide) rfl (fun ls hl => ?_)
                refine lv_goto (tgt := 99) hx hb dX9_triesBits_192 (by decide) ?_
                refine lv_iload hx hb dX9_triesBits_99 (lv_at hl 0 rfl) ?_
                refine lv_if_lt (tgt := 195) hx hb dX9_triesBits_101 (by decide) (fun c101 => ?_) (fun c101 => ?_)
                ·
                  exact absurd c101 (by decide +kernel)
                ·
                  refine lv_iload_n hx hb dX9_triesBits_104 rfl (lv_at hl 3 rfl) ?_
                  refine lv_iload hx hb dX9_triesBits_105 (lv_at hl 0 rfl) ?_
                  refine lv_ishr hx hb dX9_triesBits_107 ?_
                  refine my_eqi (y := 7) (by decide +kernel) ?_
                  refine lv_iconst (v := 1) hx hb dX9_triesBits_108 (by decide +kernel) ?_
                  refine lv_iand hx hb dX9_triesBits_109 ?_
                  refine my_eqi (y := 1) (by decide +kernel) ?_
                  refine lv_if_ne (tgt := 189) hx hb dX9_triesBits_110 (by decide) (fun c110 => ?_) (fun c110 => ?_)
                  ·
                    refine lv_iinc (v := 4) (lv' := [(4, .int 4), (0, .ref m0), (1, .int 7), (2, .int 254), (3, .int 0)]) hx hb dX9_triesBits_189 hl (k := 0) rfl (by decide +kernel) (by decide) rfl (fun ls hl => ?_)
                    refine lv_goto (tgt := 99) hx hb dX9_triesBits_192 (by decide) ?_
                    refine lv_iload hx hb dX9_triesBits_99 (lv_at hl 0 rfl) ?_
                    refine lv_if_lt (tgt := 195) hx hb dX9_triesBits_101 (by decide) (fun c101 => ?_) (fun c101 => ?_)
                    ·
                      exact absurd c101 (by decide +kernel)
                    ·
                      refine lv_iload_n hx hb dX9_triesBits_104 rfl (lv_at hl 3 rfl) ?_
                      refine lv_iload hx hb dX9_triesBits_105 (lv_at hl 0 rfl) ?_
                      refine lv_ishr hx hb dX9_triesBits_107 ?_
                      refine my_eqi (y := 15) (by decide +kernel) ?_
                      refine lv_iconst (v := 1) hx hb dX9_triesBits_108 (by decide +kernel) ?_
                      refine lv_iand hx hb dX9_triesBits_109 ?_
                      refine my_eqi (y := 1) (by decide +kernel) ?_
                      refine lv_if_ne (tgt := 189) hx hb dX9_triesBits_110 (by decide) (fun c110 => ?_) (fun c110 => ?_)
                      ·
                        refine lv_iinc (v := 3) (lv' := [(4, .int 3), (0, .ref m0), (1, .int 7), (2, .int 254), (3, .int 0)]) hx hb dX9_triesBits_189 hl (k := 0) rfl (by decide +kernel) (by decide) rfl (fun ls hl => ?_)
                        refine lv_goto (tgt := 99) hx hb dX9_triesBits_192 (by decide) ?_
                        refine lv_iload hx hb dX9_triesBits_99 (lv_at hl 0 rfl) ?_
                        refine lv_if_lt (tgt := 195) hx hb dX9_triesBits_101 (by decide) (fun c101 => ?_) (fun c101 => ?_)
                        ·
                          exact absurd c101 (by decide +kernel)
                        ·
                          refine lv_iload_n hx hb dX9_triesBits_104 rfl (lv_at hl 3 rfl) ?_
                          refine lv_iload hx hb dX9_triesBits_105 (lv_at hl 0 rfl) ?_
                          refine lv_ishr hx hb dX9_triesBits_107 ?_
                          refine my_eqi (y := 31) (by decide +kernel) ?_
                          refine lv_iconst (v := 1) hx hb dX9_triesBits_108 (by decide +kernel) ?_
                          refine lv_iand hx hb dX9_triesBits_109 ?_
                          refine my_eqi (y := 1) (by decide +kernel) ?_
                          refine lv_if_ne (tgt := 189) hx hb dX9_triesBits_110 (by decide) (fun c110 => ?_) (fun c110 => ?_)
                          ·
                            refine lv_iinc (v := 2) (lv' := [(4, .int 2), (0, .ref m0), (1, .int 7), (2, .int 254), (3, .int 0)]) hx hb dX9_triesBits_189 hl (k := 0) rfl (by decide +kernel) (by decide) rfl (fun ls hl => ?_)
                            refine lv_goto (tgt := 99) hx hb dX9_triesBits_192 (by decide) ?_
                            refine lv_iload hx hb dX9_triesBits_99 (lv_at hl 0 rfl) ?_
                            refine lv_if_lt (tgt := 195) hx hb dX9_triesBits_101 (by decide) (fun c101 => ?_) (fun c101 => ?_)
                            ·
                              exact absurd c101 (by decide +kernel)
                            ·
                              refine lv_iload_n hx hb dX9_triesBits_104 rfl (lv_at hl 3 rfl) ?_
                              refine lv_iload hx hb dX9_triesBits_105 (lv_at hl 0 rfl) ?_
                              refine lv_ishr hx hb dX9_triesBits_107 ?_
                              refine my_eqi (y := 63) (by decide +kernel) ?_
                              refine lv_iconst (v := 1) hx hb dX9_triesBits_108 (by decide +kernel) ?_
                              refine lv_iand hx hb dX9_triesBits_109 ?_
                              refine my_eqi (y := 1) (by decide +kernel) ?_
                              refine lv_if_ne (tgt := 189) hx hb dX9_triesBits_110 (by decide) (fun c110 => ?_) (fun c110 => ?_)
                              ·
                                refine lv_iinc (v := 1) (lv' := [(4, .int 1), (0, .ref m0), (1, .int 7), (2, .int 254), (3, .int 0)]) hx hb dX9_triesBits_189 hl (k := 0) rfl (by decide +kernel) (by decide) rfl (fun ls hl => ?_)
                                refine lv_goto (tgt := 99) hx hb dX9_triesBits_192 (by decide) ?_
                                refine lv_iload hx hb dX9_triesBits_99 (lv_at hl 0 rfl) ?_
                                refine lv_if_lt (tgt := 195) hx hb dX9_triesBits_101 (by decide) (fun c101 => ?_) (fun c101 => ?_)
                                ·
                                  exact absurd c101 (by decide +kernel)
                                ·
                                  refine lv_iload_n hx hb dX9_triesBits_104 rfl (lv_at hl 3 rfl) ?_
                                  refine lv_iload hx hb dX9_triesBits_105 (lv_at hl 0 rfl) ?_
                                  refine lv_ishr hx hb dX9_triesBits_107 ?_
                                  refine my_eqi (y := 127) (by decide +kernel) ?_
                                  refine lv_iconst (v := 1) hx hb dX9_triesBits_108 (by decide +kernel) ?_
                                  refine lv_iand hx hb dX9_triesBits_109 ?_
                                  refine my_eqi (y := 1) (by decide +kernel) ?_
                                  refine lv_if_ne (tgt := 189) hx hb dX9_triesBits_110 (by decide) (fun c110 => ?_) (fun c110 => ?_)
                                  ·
                                    refine lv_iinc (v := 0) (lv' := [(4, .int 0), (0, .ref m0), (1, .int 7), (2, .int 254), (3, .int 0)]) hx hb dX9_triesBits_189 hl (k := 0) rfl (by decide +kernel) (by decide) rfl (fun ls hl => ?_)
                                    refine lv_goto (tgt := 99) hx hb dX9_triesBits_192 (by decide) ?_
                                    refine lv_iload hx hb dX9_triesBits_99 (lv_at hl 0 rfl) ?_
                                    refine lv_if_lt (tgt := 195) hx hb dX9_triesBits_101 (by decide) (fun c101 => ?_) (fun c101 => ?_)
                                    ·
                                      exact absurd c101 (by decide +kernel)
                                    ·
                                      refine lv_iload_n hx hb dX9_triesBits_104 rfl (lv_at hl 3 rfl) ?_
                                      refine lv_iload hx hb dX9_triesBits_105 (lv_at hl 0 rfl) ?_
                                      refine lv_ishr hx hb dX9_triesBits_107 ?_
                                      refine my_eqi (y := 254) (by decide +kernel) ?_
                                      refine lv_iconst (v := 1) hx hb dX9_triesBits_108 (by decide +kernel) ?_
                                      refine lv_iand hx hb dX9_triesBits_109 ?_
                                      refine my_eqi (y := 0) (by decide +kernel) ?_
                                      refine lv_if_ne (tgt := 189) hx hb dX9_triesBits_110 (by decide) (fun c110 => ?_) (fun c110 => ?_)
                                      ·
                                        exact absurd c110 (by decide +kernel)
                                      ·
                                        refine lv_aload_n hx hb dX9_triesBits_113 rfl (lv_at hl 1 rfl) ?_
                                        refine va_get (ci := 9) (v := .ref a_chosen) (C := RX9) (T := TX9) (N := 24) hx hb hts hi9 hown hK hP 0 rfl rfl 16 (by decide) fl70 (fun _ h9 => h9) rfl dX9_triesBits_114 ?_
                                        refine lv_iload_n hx hb dX9_triesBits_117 rfl (lv_at hl 2 rfl) ?_
                                        refine lv_iload hx hb dX9_triesBits_118 (lv_at hl 0 rfl) ?_
                                        refine va_iast hx hb hK hP hD hS 1 0 rfl rfl (vp_in_nI (n := 7) (by omega) (by omega)) dX9_triesBits_120 (fun H locs hP hD hS => ?_)
                                        have eU : upd f (7 : Int32).toNatClampNeg 0 = upd f 7 0 := by rw [show (7 : Int32).toNatClampNeg = 7 from by decide +kernel]
                                        rw [eU] at hP hD
                                        have hP : va_P D vwCl [(m0, .inr (9, [.int i_thrown, .int i_told, .ref a_row, .ref a_tape, .int i_taped, .int i_at, .int i_to, .int 0, .ref a_number, .ref a_read, .int i_readMany, .ref a_readBits, .ref a_stands, .ref a_parted, .ref a_bitsWere, .ref a_stood, .ref a_chosen, .ref a_bestChosen, .int (-1), .ref a_often, .ref a_sorted, .int i_size, .ref a_risen, .ref a_risenWays])), (a_chosen, .inl (cI, 8, .inl (upd f 7 0))), (a_bestChosen, .inl (cI, 8, .inl g))] H := hP
                                        have hD : va_D A [(m0, .inr (9, [.int i_thrown, .int i_told, .ref a_row, .ref a_tape, .int i_taped, .int i_at, .int i_to, .int 0, .ref a_number, .ref a_read, .int i_readMany, .ref a_readBits, .ref a_stands, .ref a_parted, .ref a_bitsWere, .ref a_stood, .ref a_chosen, .ref a_bestChosen, .int (-1), .ref a_often, .ref a_sorted, .int i_size, .ref a_risen, .ref a_risenWays])), (a_chosen, .inl (cI, 8, .inl (upd f 7 0))), (a_bestChosen, .inl (cI, 8, .inl g))] := hD
                                        refine lv_aload_n hx hb dX9_triesBits_121 rfl (lv_at hl 1 rfl) ?_
                                        refine lv_iload hx hb dX9_triesBits_122 (lv_at hl 0 rfl) ?_
                                        refine my_gpI (my_pV (As := [.int 0]) (rest := []) (ci := 9) ⟨hx, hb, hml, hown, hts⟩ (cwV 1 hts gX9_triesBits_X9_runsOf rfl rfl rfl (by decide +kernel) ⟨Nat.le_of_ble_eq_true rfl, Nat.le_of_ble_eq_true rfl⟩) hN hK hP [0] rfl 0 rfl rfl rfl rfl hl.1 rfl (Nat.le_of_ble_eq_true rfl) dX9_triesBits_124 ⟨Nat.le_of_ble_eq_true rfl, Nat.le_of_ble_eq_true rfl⟩  (k0_X9_runsOf l D cI cJ m0 a_row a_tape a_number a_read a_readBits a_stands a_parted a_bitsWere a_stood a_chosen a_bestChosen a_often a_sorted a_risen a_risenWays i_thrown i_told i_taped i_at i_to i_readMany (-1 : Int32) i_size (0 : Int32))) (fun r hp => ?_)
                                        obtain rfl := hp
                                        refine lv_istore (lv' := [(5, .int 0), (4, .int 0), (0, .ref m0), (1, .int 7), (2, .int 254), (3, .int 0)]) hx hb dX9_triesBits_127 hl (by decide) rfl (fun ls hl => ?_)
                                        refine lv_aload_n hx hb dX9_triesBits_129 rfl (lv_at hl 2 rfl) ?_
                                        refine lv_iload hx hb dX9_triesBits_130 (lv_at hl 1 rfl) ?_
                                        refine my_goV (wr := [(a_chosen, .inl (cI, 8, .inl (upd f 7 0))), (a_bestChosen, .inl (cI, 8, .inl g))]) hP hD hS hA [0] [1, 2] rfl rfl (by decide) (by decide) (my_cV (As := [.int 0]) (rest := []) (ci := 9) (wc := [(m0, .inr (9, [.int i_thrown, .int i_told, .ref a_row, .ref a_tape, .int i_taped, .int i_at, .int i_to, .int 0, .ref a_number, .ref a_read, .int i_readMany, .ref a_readBits, .ref a_stands, .ref a_parted, .ref a_bitsWere, .ref a_stood, .ref a_chosen, .ref a_bestChosen, .int (-1), .ref a_often, .ref a_sorted, .int i_size, .ref a_risen, .ref a_risenWays]))]) ⟨hx, hb, hml, hown, hts⟩ (cwV 1 hts gX9_triesBits_X9_parts rfl rfl rfl (by decide +kernel) ⟨Nat.le_of_ble_eq_true rfl, Nat.le_of_ble_eq_true rfl⟩) hN hK hP hD [0] rfl (by decide) rfl 0 rfl rfl rfl rfl hl.1 rfl (Nat.le_of_ble_eq_true rfl) dX9_triesBits_132 ⟨Nat.le_of_ble_eq_true rfl, Nat.le_of_ble_eq_true rfl⟩  ((k0_X9_parts l D cI cJ m0 a_row a_tape a_number a_read a_readBits a_stands a_parted a_bitsWere a_stood a_chosen a_bestChosen a_often a_sorted a_risen a_risenWays i_thrown i_told i_taped i_at i_to i_readMany (-1 : Int32) i_size (0 : Int32)) _)) (fun u H locs hp hP hD hS => ?_)
                                        obtain rfl := hp
                                        have hP : va_P D vwCl [(a_chosen, .inl (cI, 8, .inl (upd f 7 0))), (a_bestChosen, .inl (cI, 8, .inl g)), (m0, .inr (9, [.int i_thrown, .int i_told, .ref a_row, .ref a_tape, .int i_taped, .int i_at, .int i_to, .int 0, .ref a_number, .ref a_read, .int i_readMany, .ref a_readBits, .ref a_stands, .ref a_parted, .ref a_bitsWere, .ref a_stood, .ref a_chosen, .ref a_bestChosen, .int (-1), .ref a_often, .ref a_sorted, .int i_size, .ref a_risen, .ref a_risenWays]))] H := hP
                                        have hD : va_D A [(a_chosen, .inl (cI, 8, .inl (upd f 7 0))), (a_bestChosen, .inl (cI, 8, .inl g)), (m0, .inr (9, [.int i_thrown, .int i_told, .ref a_row, .ref a_tape, .int i_taped, .int i_at, .int i_to, .int 0, .ref a_number, .ref a_read, .int i_readMany, .ref a_readBits, .ref a_stands, .ref a_parted, .ref a_bitsWere, .ref a_stood, .ref a_chosen, .ref a_bestChosen, .int (-1), .ref a_often, .ref a_sorted, .int i_size, .ref a_risen, .ref a_risenWays]))] := hD
                                        refine lv_aload_n hx hb dX9_triesBits_135 rfl (lv_at hl 2 rfl) ?_
                                        refine lv_iload_n hx hb dX9_triesBits_136 rfl (lv_at hl 3 rfl) ?_
                                        refine lv_iconst (v := 1) hx hb dX9_triesBits_137 (by decide +kernel) ?_
                                        refine lv_iadd hx hb dX9_triesBits_138 ?_
                                        refine my_eqi (y := 8) (by decide +kernel) ?_
                                        refine lv_iload_n hx hb dX9_triesBits_139 rfl (lv_at hl 4 rfl) ?_
                                        refine lv_iconst (v := 1) hx hb dX9_triesBits_140 (by decide +kernel) ?_
                                        refine lv_iload hx hb dX9_triesBits_141 (lv_at hl 1 rfl) ?_
                                        refine lv_ishl hx hb dX9_triesBits_143 ?_
                                        refine my_eqi (y := 1) (by decide +kernel) ?_
                                        refine lv_ior hx hb dX9_triesBits_144 ?_
                                        refine my_eqi (y := 255) (by decide +kernel) ?_
                                        refine lv_iload_n hx hb dX9_triesBits_145 rfl (lv_at hl 5 rfl) ?_
                                        refine lv_iload hx hb dX9_triesBits_146 (lv_at hl 0 rfl) ?_
                                        refine lv_iadd hx hb dX9_triesBits_148 ?_
                                        refine my_eqi (y := 0) (by decide +kernel) ?_
                                        refine my_goV (wr := []) hP hD hS hA [2, 0, 1] [] rfl rfl (by decide) (by decide) (my_cV (As := [.int 8, .int 255, .int 0]) (rest := []) (ci := 9) (wc := [(m0, .inr (9, [.int i_thrown, .int i_told, .ref a_row, .ref a_tape, .int i_taped, .int i_at, .int i_to, .int 0, .ref a_number, .ref a_read, .int i_readMany, .ref a_readBits, .ref a_stands, .ref a_parted, .ref a_bitsWere, .ref a_stood, .ref a_chosen, .ref a_bestChosen, .int (-1), .ref a_often, .ref a_sorted, .int i_size, .ref a_risen, .ref a_risenWays])), (a_chosen, .inl (cI, 8, .inl (upd f 7 0))), (a_bestChosen, .inl (cI, 8, .inl g))]) ⟨hx, hb, hml, hown, hts⟩ (cwV 3 hts gX9_triesBits_X9_triesBits rfl rfl rfl (by decide +kernel) ⟨Nat.le_of_ble_eq_true rfl, Nat.le_of_ble_eq_true rfl⟩) hN hK hP hD [2, 0, 1] rfl (by decide) rfl 2 rfl rfl rfl rfl hl.1 rfl (Nat.le_of_ble_eq_true rfl) dX9_triesBits_149 ⟨Nat.le_of_ble_eq_true rfl, Nat.le_of_ble_eq_true rfl⟩  ((k0_X9_triesBits_8 l D cI cJ m0 a_row a_tape a_number a_read a_readBits a_stands a_parted a_bitsWere a_stood a_chosen a_bestChosen a_often a_sorted a_risen a_risenWays i_thrown i_told i_taped i_at i_to i_readMany i_size (upd f 7 0) g) _)) (fun u H locs hp hP hD hS => ?_)
                                        obtain ⟨f_1, g_2, rfl⟩ := hp
                                        have hP : va_P D vwCl [(m0, .inr (9, [.int i_thrown, .int i_told, .ref a_row, .ref a_tape, .int i_taped, .int i_at, .int i_to, .int 0, .ref a_number, .ref a_read, .int i_readMany, .ref a_readBits, .ref a_stands, .ref a_parted, .ref a_bitsWere, .ref a_stood, .ref a_chosen, .ref a_bestChosen, .int 0, .ref a_often, .ref a_sorted, .int i_size, .ref a_risen, .ref a_risenWays])), (a_chosen, .inl (cI, 8, .inl f_1)), (a_bestChosen, .inl (cI, 8, .inl g_2))] H := hP
                                        have hD : va_D A [(m0, .inr (9, [.int i_thrown, .int i_told, .ref a_row, .ref a_tape, .int i_taped, .int i_at, .int i_to, .int 0, .ref a_number, .ref a_read, .int i_readMany, .ref a_readBits, .ref a_stands, .ref a_parted, .ref a_bitsWere, .ref a_stood, .ref a_chosen, .ref a_bestChosen, .int 0, .ref a_often, .ref a_sorted, .int i_size, .ref a_risen, .ref a_risenWays])), (a_chosen, .inl (cI, 8, .inl f_1)), (a_bestChosen, .inl (cI, 8, .inl g_2))] := hD
                                        refine lv_iconst (v := 0) hx hb dX9_triesBits_152 (by decide +kernel) ?_
                                        refine lv_istore (lv' := [(6, .int 0), (5, .int 0), (4, .int 0), (0, .ref m0), (1, .int 7), (2, .int 254), (3, .int 0)]) hx hb dX9_triesBits_153 hl (by decide) rfl (fun ls hl => ?_)
                                        refine lv_iload hx hb dX9_triesBits_155 (lv_at hl 0 rfl) ?_
                                        refine lv_aload_n hx hb dX9_triesBits_157 rfl (lv_at hl 3 rfl) ?_
                                        refine va_get (ci := 9) (v := .int 0) (C := RX9) (T := TX9) (N := 24) hx hb hts hi9 hown hK hP 0 rfl rfl 7 (by decide) fl88 (fun _ h9 => h9) rfl dX9_triesBits_158 ?_
                                        refine lv_icmp_ge (tgt := 189) hx hb dX9_triesBits_161 (by decide) (fun c161 => ?_) (fun c161 => ?_)
                                        ·
                                          refine lv_iinc (v := (-1)) (lv' := [(4, .int (-1)), (6, .int 0), (5, .int 0), (0, .ref m0), (1, .int 7), (2, .int 254), (3, .int 0)]) hx hb dX9_triesBits_189 hl (k := 2) rfl (by decide +kernel) (by decide) rfl (fun ls hl => ?_)
                                          refine lv_goto (tgt := 99) hx hb dX9_triesBits_192 (by decide) ?_
                                          refine lv_iload hx hb dX9_triesBits_99 (lv_at hl 0 rfl) ?_
                                          refine lv_if_lt (tgt := 195) hx hb dX9_triesBits_101 (by decide) (fun c101 => ?_) (fun c101 => ?_)
                                          ·
                                            exact my_retV hx hb hr hlocks hK hS [(m0, .inr (9, [.int i_thrown, .int i_told, .ref a_row, .ref a_tape, .int i_taped, .int i_at, .int i_to, .int 0, .ref a_number, .ref a_read, .int i_readMany, .ref a_readBits, .ref a_stands, .ref a_parted, .ref a_bitsWere, .ref a_stood, .ref a_chosen, .ref a_bestChosen, .int 0, .ref a_often, .ref a_sorted, .int i_size, .ref a_risen, .ref a_risenWays])), (a_chosen, .inl (cI, 8, .inl f_1)), (a_bestChosen, .inl (cI, 8, .inl g_2))] (hP.sub [0, 1, 2] rfl) (hD.sub [0, 1, 2] (by decide) rfl) (⟨f_1, g_2, rfl⟩) dX9_triesBits_195
                                          ·
                                            exact absurd c101 (by decide +kernel)
                                        ·
                                          exact absurd c161 (by decide +kernel)
                                  ·
                                    exact absurd c110 (by decide +kernel)
                              ·
                                exact absurd c110 (by decide +kernel)
                          ·
                            exact absurd c110 (by decide +kernel)
                      ·
                        exact absurd c110 (by decide +kernel)
                  ·
                    exact absurd c110 (by decide +kernel)
              ·
                exact absurd c110 (by decide +kernel)
          ·
            exact absurd c110 (by decide +kernel)
      ·
        exact absurd c67 (by decide +kernel)
    ·
      exact absurd c19 (by decide +kernel)
  ·
    exact absurd c4 (by decide +kernel)
set_option maxHeartbeats 4000000 in
set_option maxRecDepth 100000 in
theorem k0_X9_triesBits_6 (l : Launch) (D : va_G) (cI cJ : ClassId) (m0 : Nat) (a_row : Nat) (a_tape : Nat) (a_number : Nat) (a_read : Nat) (a_readBits : Nat) (a_stands : Nat) (a_parted : Nat) (a_bitsWere : Nat) (a_stood : Nat) (a_chosen : Nat) (a_bestChosen : Nat) (a_often : Nat) (a_sorted : Nat) (a_risen : Nat) (a_risenWays : Nat) (i_thrown : Int32) (i_told : Int32) (i_taped : Int32) (i_at : Int32) (i_to : Int32) (i_readMany : Int32) (i_size : Int32) (f : Nat → Int32) (g : Nat → Int32) : ctV l yX9_triesBits wsX9_triesBits ({ frames := 2, cells := 0, slots := 0, locals := 120 } : Room) D (tyIJ cI cJ) [.ref m0, .int 6, .int 252, .int 0] [(m0, .inr (9, [.int i_thrown, .int i_told, .ref a_row, .ref a_tape, .int i_taped, .int i_at, .int i_to, .int 0, .ref a_number, .ref a_read, .int i_readMany, .ref a_readBits, .ref a_stands, .ref a_parted, .ref a_bitsWere, .ref a_stood, .ref a_chosen, .ref a_bestChosen, .int (-1), .ref a_often, .ref a_sorted, .int i_size, .ref a_risen, .ref a_risenWays])), (a_chosen, .inl (cI, 8, .inl f)), (a_bestChosen, .inl (cI, 8, .inl g))] (fun (u : va_W) => ∃ (f' : Nat → Int32) (g' : Nat → Int32), u = [(m0, .inr (9, [.int i_thrown, .int i_told, .ref a_row, .ref a_tape, .int i_taped, .int i_at, .int i_to, .int 0, .ref a_number, .ref a_read, .int i_readMany, .ref a_readBits, .ref a_stands, .ref a_parted, .ref a_bitsWere, .ref a_stood, .ref a_chosen, .ref a_bestChosen, .int 0, .ref a_often, .ref a_sorted, .int i_size, .ref a_risen, .ref a_risenWays])), (a_chosen, .inl (cI, 8, .inl f')), (a_bestChosen, .inl (cI, 8, .inl g'))]) := by
  refine ctV.of (cc := cX9_triesBits) (maxL := 7) (ret := none) (by decide) rfl (Nat.le_of_ble_eq_true rfl) ?_
  intro p e s m below meth c ls A hx hb hr hts hown hml hlocks hname hA hK hN hP hD hS hl
  have hl : lv_has ls 7 [(0, .ref m0), (1, .int 6), (2, .int 252), (3, .int 0)] := hl
  have hown : s.vm.findClass RX9 = some m.cls := hown
  have hi9 : ∀ w ∈ u_ws RX9 TX9 24, w ∈ wsX9_triesBits := by decide +kernel
  have fl162 := hts (.fieldLink RX9 162 "PlaneColumnModel" "fewest" "I") (by decide +kernel)
  have fl70 := hts (.fieldLink RX9 70 "PlaneColumnModel" "chosen" "[I") (by decide +kernel)
  have fl88 := hts (.fieldLink RX9 88 "PlaneColumnModel" "many" "I") (by decide +kernel)
  refine lv_aload_n hx hb dX9_triesBits_0 rfl (lv_at hl 0 rfl) ?_
  refine va_get (ci := 9) (v := .int (-1)) (C := RX9) (T := TX9) (N := 24) hx hb hts hi9 hown hK hP 0 rfl rfl 18 (by decide) fl162 (fun _ h9 => h9) rfl dX9_triesBits_1 ?_
  refine lv_if_lt (tgt := 16) hx hb dX9_triesBits_4 (by decide) (fun c4 => ?_) (fun c4 => ?_)
  ·
    refine lv_iload_n hx hb dX9_triesBits_16 rfl (lv_at hl 1 rfl) ?_
    refine lv_bipush (v := 8) hx hb dX9_triesBits_17 (by decide +kernel) ?_
    refine lv_icmp_ne (tgt := 58) hx hb dX9_triesBits_19 (by decide) (fun c19 => ?_) (fun c19 => ?_)
    ·
      refine lv_iconst (v := 0) hx hb dX9_triesBits_58 (by decide +kernel) ?_
      refine lv_istore (lv' := [(4, .int 0), (0, .ref m0), (1, .int 6), (2, .int 252), (3, .int 0)]) hx hb dX9_triesBits_59 hl (by decide) rfl (fun ls hl => ?_)
      refine lv_iload hx hb dX9_triesBits_61 (lv_at hl 0 rfl) ?_
      refine lv_aload_n hx hb dX9_triesBits_63 rfl (lv_at hl 1 rfl) ?_
      refine va_get (ci := 9) (v := .int 0) (C := RX9) (T := TX9) (N := 24) hx hb hts hi9 hown hK hP 0 rfl rfl 7 (by decide) fl88 (fun _ h9 => h9) rfl dX9_triesBits_64 ?_
      refine lv_icmp_ge (tgt := 95) hx hb dX9_triesBits_67 (by decide) (fun c67 => ?_) (fun c67 => ?_)
      ·
        refine lv_bipush (v := 7) hx hb dX9_triesBits_95 (by decide +kernel) ?_
        refine lv_istore (lv' := [(4, .int 7), (0, .ref m0), (1, .int 6), (2, .int 252), (3, .int 0)]) hx hb dX9_triesBits_97 hl (by decide) rfl (fun ls hl => ?_)
        refine lv_iload hx hb dX9_triesBits_99 (lv_at hl 0 rfl) ?_
        refine lv_if_lt (tgt := 195) hx hb dX9_triesBits_101 (by decide) (fun c101 => ?_) (fun c101 => ?_)
        ·
          exact absurd c101 (by decide +kernel)
        ·
          refine lv_iload_n hx hb dX9_triesBits_104 rfl (lv_at hl 3 rfl) ?_
          refine lv_iload hx hb dX9_triesBits_105 (lv_at hl 0 rfl) ?_
          refine lv_ishr hx hb dX9_triesBits_107 ?_
          refine my_eqi (y := 1) (by decide +kernel) ?_
          refine lv_iconst (v := 1) hx hb dX9_triesBits_108 (by decide +kernel) ?_
          refine lv_iand hx hb dX9_triesBits_109 ?_
          refine my_eqi (y := 1) (by decide +kernel) ?_
          refine lv_if_ne (tgt := 189) hx hb dX9_triesBits_110 (by decide) (fun c110 => ?_) (fun c110 => ?_)
          ·
            refine lv_iinc (v := 6) (lv' := [(4, .int 6), (0, .ref m0), (1, .int 6), (2, .int 252), (3, .int 0)]) hx hb dX9_triesBits_189 hl (k := 0) rfl (by decide +kernel) (by decide) rfl (fun ls hl => ?_)
            refine lv_goto (tgt := 99) hx hb dX9_triesBits_192 (by decide) ?_
            refine lv_iload hx hb dX9_triesBits_99 (lv_at hl 0 rfl) ?_
            refine lv_if_lt (tgt := 195) hx hb dX9_triesBits_101 (by decide) (fun c101 => ?_) (fun c101 => ?_)
            ·
              exact absurd c101 (by decide +kernel)
            ·
              refine lv_iload_n hx hb dX9_triesBits_104 rfl (lv_at hl 3 rfl) ?_
              refine lv_iload hx hb dX9_triesBits_105 (lv_at hl 0 rfl) ?_
              refine lv_ishr hx hb dX9_triesBits_107 ?_
              refine my_eqi (y := 3) (by decide +kernel) ?_
              refine lv_iconst (v := 1) hx hb dX9_triesBits_108 (by decide +kernel) ?_
              refine lv_iand hx hb dX9_triesBits_109 ?_
              refine my_eqi (y := 1) (by decide +kernel) ?_
              refine lv_if_ne (tgt := 189) hx hb dX9_triesBits_110 (by decide) (fun c110 => ?_) (fun c110 => ?_)
              ·
                refine lv_iinc (v := 5) (lv' := [(4, .int 5), (0, .ref m0), (1, .int 6), (2, .int 252), (3, .int 0)]) hx hb dX9_triesBits_189 hl (k := 0) rfl (by decide +kernel) (by decide) rfl (fun ls hl => ?_)
                refine lv_goto (tgt := 99) hx hb dX9_triesBits_192 (by decide) ?_
                refine lv_iload hx hb dX9_triesBits_99 (lv_at hl 0 rfl) ?_
                refine lv_if_lt (tgt := 195) hx hb dX9_triesBits_101 (by decide) (fun c101 => ?_) (fun c101 => ?_)
                ·
                  exact absurd c101 (by decide +kernel)
                ·
                  refine lv_iload_n hx hb dX9_triesBits_104 rfl (lv_at hl 3 rfl) ?_
                  refine lv_iload hx hb dX9_triesBits_105 (lv_at hl 0 rfl) ?_
                  refine lv_ishr hx hb dX9_triesBits_107 ?_
                  refine my_eqi (y := 7) (by decide +kernel) ?_
                  refine lv_iconst (v := 1) hx hb dX9_triesBits_108 (by decide +kernel) ?_
                  refine lv_iand hx hb dX9_triesBits_109 ?_
                  refine my_eqi (y := 1) (by decide +kernel) ?_
                  refine lv_if_ne (tgt := 189) hx hb dX9_triesBits_110 (by decide) (fun c110 => ?_) (fun c110 => ?_)
                  ·
                    refine lv_iinc (v := 4) (lv' := [(4, .int 4), (0, .ref m0), (1, .int 6), (2, .int 252), (3, .int 0)]) hx hb dX9_triesBits_189 hl (k := 0) rfl (by decide +kernel) (by decide) rfl (fun ls hl => ?_)
                    refine lv_goto (tgt := 99) hx hb dX9_triesBits_192 (by decide) ?_
                    refine lv_iload hx hb dX9_triesBits_99 (lv_at hl 0 rfl) ?_
                    refine lv_if_lt (tgt := 195) hx hb dX9_triesBits_101 (by decide) (fun c101 => ?_) (fun c101 => ?_)
                    ·
                      exact absurd c101 (by decide +kernel)
                    ·
                      refine lv_iload_n hx hb dX9_triesBits_104 rfl (lv_at hl 3 rfl) ?_
                      refine lv_iload hx hb dX9_triesBits_105 (lv_at hl 0 rfl) ?_
                      refine lv_ishr hx hb dX9_triesBits_107 ?_
                      refine my_eqi (y := 15) (by decide +kernel) ?_
                      refine lv_iconst (v := 1) hx hb dX9_triesBits_108 (by decide +kernel) ?_
                      refine lv_iand hx hb dX9_triesBits_109 ?_
                      refine my_eqi (y := 1) (by decide +kernel) ?_
                      refine lv_if_ne (tgt := 189) hx hb dX9_triesBits_110 (by decide) (fun c110 => ?_) (fun c110 => ?_)
                      ·
                        refine lv_iinc (v := 3) (lv' := [(4, .int 3), (0, .ref m0), (1, .int 6), (2, .int 252), (3, .int 0)]) hx hb dX9_triesBits_189 hl (k := 0) rfl (by decide +kernel) (by decide) rfl (fun ls hl => ?_)
                        refine lv_goto (tgt := 99) hx hb dX9_triesBits_192 (by decide) ?_
                        refine lv_iload hx hb dX9_triesBits_99 (lv_at hl 0 rfl) ?_
                        refine lv_if_lt (tgt := 195) hx hb dX9_triesBits_101 (by decide) (fun c101 => ?_) (fun c101 => ?_)
                        ·
                          exact absurd c101 (by decide +kernel)
                        ·
                          refine lv_iload_n hx hb dX9_triesBits_104 rfl (lv_at hl 3 rfl) ?_
                          refine lv_iload hx hb dX9_triesBits_105 (lv_at hl 0 rfl) ?_
                          refine lv_ishr hx hb dX9_triesBits_107 ?_
                          refine my_eqi (y := 31) (by decide +kernel) ?_
                          refine lv_iconst (v := 1) hx hb dX9_triesBits_108 (by decide +kernel) ?_
                          refine lv_iand hx hb dX9_triesBits_109 ?_
                          refine my_eqi (y := 1) (by decide +kernel) ?_
                          refine lv_if_ne (tgt := 189) hx hb dX9_triesBits_110 (by decide) (fun c110 => ?_) (fun c110 => ?_)
                          ·
                            refine lv_iinc (v := 2) (lv' := [(4, .int 2), (0, .ref m0), (1, .int 6), (2, .int 252), (3, .int 0)]) hx hb dX9_triesBits_189 hl (k := 0) rfl (by decide +kernel) (by decide) rfl (fun ls hl => ?_)
                            refine lv_goto (tgt := 99) hx hb dX9_triesBits_192 (by decide) ?_
                            refine lv_iload hx hb dX9_triesBits_99 (lv_at hl 0 rfl) ?_
                            refine lv_if_lt (tgt := 195) hx hb dX9_triesBits_101 (by decide) (fun c101 => ?_) (fun c101 => ?_)
                            ·
                              exact absurd c101 (by decide +kernel)
                            ·
                              refine lv_iload_n hx hb dX9_triesBits_104 rfl (lv_at hl 3 rfl) ?_
                              refine lv_iload hx hb dX9_triesBits_105 (lv_at hl 0 rfl) ?_
                              refine lv_ishr hx hb dX9_triesBits_107 ?_
                              refine my_eqi (y := 63) (by decide +kernel) ?_
                              refine lv_iconst (v := 1) hx hb dX9_triesBits_108 (by decide +kernel) ?_
                              refine lv_iand hx hb dX9_triesBits_109 ?_
                              refine my_eqi (y := 1) (by decide +kernel) ?_
                              refine lv_if_ne (tgt := 189) hx hb dX9_triesBits_110 (by decide) (fun c110 => ?_) (fun c110 => ?_)
                              ·
                                refine lv_iinc (v := 1) (lv' := [(4, .int 1), (0, .ref m0), (1, .int 6), (2, .int 252), (3, .int 0)]) hx hb dX9_triesBits_189 hl (k := 0) rfl (by decide +kernel) (by decide) rfl (fun ls hl => ?_)
                                refine lv_goto (tgt := 99) hx hb dX9_triesBits_192 (by decide) ?_
                                refine lv_iload hx hb dX9_triesBits_99 (lv_at hl 0 rfl) ?_
                                refine lv_if_lt (tgt := 195) hx hb dX9_triesBits_101 (by decide) (fun c101 => ?_) (fun c101 => ?_)
                                ·
                                  exact absurd c101 (by decide +kernel)
                                ·
                                  refine lv_iload_n hx hb dX9_triesBits_104 rfl (lv_at hl 3 rfl) ?_
                                  refine lv_iload hx hb dX9_triesBits_105 (lv_at hl 0 rfl) ?_
                                  refine lv_ishr hx hb dX9_triesBits_107 ?_
                                  refine my_eqi (y := 126) (by decide +kernel) ?_
                                  refine lv_iconst (v := 1) hx hb dX9_triesBits_108 (by decide +kernel) ?_
                                  refine lv_iand hx hb dX9_triesBits_109 ?_
                                  refine my_eqi (y := 0) (by decide +kernel) ?_
                                  refine lv_if_ne (tgt := 189) hx hb dX9_triesBits_110 (by decide) (fun c110 => ?_) (fun c110 => ?_)
                                  ·
                                    exact absurd c110 (by decide +kernel)
                                  ·
                                    refine lv_aload_n hx hb dX9_triesBits_113 rfl (lv_at hl 1 rfl) ?_
                                    refine va_get (ci := 9) (v := .ref a_chosen) (C := RX9) (T := TX9) (N := 24) hx hb hts hi9 hown hK hP 0 rfl rfl 16 (by decide) fl70 (fun _ h9 => h9) rfl dX9_triesBits_114 ?_
                                    refine lv_iload_n hx hb dX9_triesBits_117 rfl (lv_at hl 2 rfl) ?_
                                    refine lv_iload hx hb dX9_triesBits_118 (lv_at hl 0 rfl) ?_
                                    refine va_iast hx hb hK hP hD hS 1 0 rfl rfl (vp_in_nI (n := 6) (by omega) (by omega)) dX9_triesBits_120 (fun H locs hP hD hS => ?_)
                                    have eU : upd f (6 : Int32).toNatClampNeg 1 = upd f 6 1 := by rw [show (6 : Int32).toNatClampNeg = 6 from by decide +kernel]
                                    rw [eU] at hP hD
                                    have hP : va_P D vwCl [(m0, .inr (9, [.int i_thrown, .int i_told, .ref a_row, .ref a_tape, .int i_taped, .int i_at, .int i_to, .int 0, .ref a_number, .ref a_read, .int i_readMany, .ref a_readBits, .ref a_stands, .ref a_parted, .ref a_bitsWere, .ref a_stood, .ref a_chosen, .ref a_bestChosen, .int (-1), .ref a_often, .ref a_sorted, .int i_size, .ref a_risen, .ref a_risenWays])), (a_chosen, .inl (cI, 8, .inl (upd f 6 1))), (a_bestChosen, .inl (cI, 8, .inl g))] H := hP
                                    have hD : va_D A [(m0, .inr (9, [.int i_thrown, .int i_told, .ref a_row, .ref a_tape, .int i_taped, .int i_at, .int i_to, .int 0, .ref a_number, .ref a_read, .int i_readMany, .ref a_readBits, .ref a_stands, .ref a_parted, .ref a_bitsWere, .ref a_stood, .ref a_chosen, .ref a_bestChosen, .int (-1), .ref a_often, .ref a_sorted, .int i_size, .ref a_risen, .ref a_risenWays])), (a_chosen, .inl (cI, 8, .inl (upd f 6 1))), (a_bestChosen, .inl (cI, 8, .inl g))] := hD
                                    refine lv_aload_n hx hb dX9_triesBits_121 rfl (lv_at hl 1 rfl) ?_
                                    refine lv_iload hx hb dX9_triesBits_122 (lv_at hl 0 rfl) ?_
                                    refine my_gpI (my_pV (As := [.int 1]) (rest := []) (ci := 9) ⟨hx, hb, hml, hown, hts⟩ (cwV 1 hts gX9_triesBits_X9_runsOf rfl rfl rfl (by decide +kernel) ⟨Nat.le_of_ble_eq_true rfl, Nat.le_of_ble_eq_true rfl⟩) hN hK hP [0] rfl 0 rfl rfl rfl rfl hl.1 rfl (Nat.le_of_ble_eq_true rfl) dX9_triesBits_124 ⟨Nat.le_of_ble_eq_true rfl, Nat.le_of_ble_eq_true rfl⟩  (k0_X9_runsOf l D cI cJ m0 a_row a_tape a_number a_read a_readBits a_stands a_parted a_bitsWere a_stood a_chosen a_bestChosen a_often a_sorted a_risen a_risenWays i_thrown i_told i_taped i_at i_to i_readMany (-1 : Int32) i_size (1 : Int32))) (fun r hp => ?_)
                                    obtain rfl := hp
                                    refine lv_istore (lv' := [(5, .int 0), (4, .int 1), (0, .ref m0), (1, .int 6), (2, .int 252), (3, .int 0)]) hx hb dX9_triesBits_127 hl (by decide) rfl (fun ls hl => ?_)
                                    refine lv_aload_n hx hb dX9_triesBits_129 rfl (lv_at hl 2 rfl) ?_
                                    refine lv_iload hx hb dX9_triesBits_130 (lv_at hl 1 rfl) ?_
                                    refine my_goV (wr := [(a_chosen, .inl (cI, 8, .inl (upd f 6 1))), (a_bestChosen, .inl (cI, 8, .inl g))]) hP hD hS hA [0] [1, 2] rfl rfl (by decide) (by decide) (my_cV (As := [.int 1]) (rest := []) (ci := 9) (wc := [(m0, .inr (9, [.int i_thrown, .int i_told, .ref a_row, .ref a_tape, .int i_taped, .int i_at, .int i_to, .int 0, .ref a_number, .ref a_read, .int i_readMany, .ref a_readBits, .ref a_stands, .ref a_parted, .ref a_bitsWere, .ref a_stood, .ref a_chosen, .ref a_bestChosen, .int (-1), .ref a_often, .ref a_sorted, .int i_size, .ref a_risen, .ref a_risenWays]))]) ⟨hx, hb, hml, hown, hts⟩ (cwV 1 hts gX9_triesBits_X9_parts rfl rfl rfl (by decide +kernel) ⟨Nat.le_of_ble_eq_true rfl, Nat.le_of_ble_eq_true rfl⟩) hN hK hP hD [0] rfl (by decide) rfl 0 rfl rfl rfl rfl hl.1 rfl (Nat.le_of_ble_eq_true rfl) dX9_triesBits_132 ⟨Nat.le_of_ble_eq_true rfl, Nat.le_of_ble_eq_true rfl⟩  ((k0_X9_parts l D cI cJ m0 a_row a_tape a_number a_read a_readBits a_stands a_parted a_bitsWere a_stood a_chosen a_bestChosen a_often a_sorted a_risen a_risenWays i_thrown i_told i_taped i_at i_to i_readMany (-1 : Int32) i_size (1 : Int32)) _)) (fun u H locs hp hP hD hS => ?_)
                                    obtain rfl := hp
                                    have hP : va_P D vwCl [(a_chosen, .inl (cI, 8, .inl (upd f 6 1))), (a_bestChosen, .inl (cI, 8, .inl g)), (m0, .inr (9, [.int i_thrown, .int i_told, .ref a_row, .ref a_tape, .int i_taped, .int i_at, .int i_to, .int 0, .ref a_number, .ref a_read, .int i_readMany, .ref a_readBits, .ref a_stands, .ref a_parted, .ref a_bitsWere, .ref a_stood, .ref a_chosen, .ref a_bestChosen, .int (-1), .ref a_often, .ref a_sorted, .int i_size, .ref a_risen, .ref a_risenWays]))] H := hP
                                    have hD : va_D A [(a_chosen, .inl (cI, 8, .inl (upd f 6 1))), (a_bestChosen, .inl (cI, 8, .inl g)), (m0, .inr (9, [.int i_thrown, .int i_told, .ref a_row, .ref a_tape, .int i_taped, .int i_at, .int i_to, .int 0, .ref a_number, .ref a_read, .int i_readMany, .ref a_readBits, .ref a_stands, .ref a_parted, .ref a_bitsWere, .ref a_stood, .ref a_chosen, .ref a_bestChosen, .int (-1), .ref a_often, .ref a_sorted, .int i_size, .ref a_risen, .ref a_risenWays]))] := hD
                                    refine lv_aload_n hx hb dX9_triesBits_135 rfl (lv_at hl 2 rfl) ?_
                                    refine lv_iload_n hx hb dX9_triesBits_136 rfl (lv_at hl 3 rfl) ?_
                                    refine lv_iconst (v := 1) hx hb dX9_triesBits_137 (by decide +kernel) ?_
                                    refine lv_iadd hx hb dX9_triesBits_138 ?_
                                    refine my_eqi (y := 7) (by decide +kernel) ?_
                                    refine lv_iload_n hx hb dX9_triesBits_139 rfl (lv_at hl 4 rfl) ?_
                                    refine lv_iconst (v := 1) hx hb dX9_triesBits_140 (by decide +kernel) ?_
                                    refine lv_iload hx hb dX9_triesBits_141 (lv_at hl 1 rfl) ?_
                                    refine lv_ishl hx hb dX9_triesBits_143 ?_
                                    refine my_eqi (y := 2) (by decide +kernel) ?_
                                    refine lv_ior hx hb dX9_triesBits_144 ?_
                                    refine my_eqi (y := 254) (by decide +kernel) ?_
                                    refine lv_iload_n hx hb dX9_triesBits_145 rfl (lv_at hl 5 rfl) ?_
                                    refine lv_iload hx hb dX9_triesBits_146 (lv_at hl 0 rfl) ?_
                                    refine lv_iadd hx hb dX9_triesBits_148 ?_
                                    refine my_eqi (y := 0) (by decide +kernel) ?_
                                    refine my_goV (wr := []) hP hD hS hA [2, 0, 1] [] rfl rfl (by decide) (by decide) (my_cV (As := [.int 7, .int 254, .int 0]) (rest := []) (ci := 9) (wc := [(m0, .inr (9, [.int i_thrown, .int i_told, .ref a_row, .ref a_tape, .int i_taped, .int i_at, .int i_to, .int 0, .ref a_number, .ref a_read, .int i_readMany, .ref a_readBits, .ref a_stands, .ref a_parted, .ref a_bitsWere, .ref a_stood, .ref a_chosen, .ref a_bestChosen, .int (-1), .ref a_often, .ref a_sorted, .int i_size, .ref a_risen, .ref a_risenWays])), (a_chosen, .inl (cI, 8, .inl (upd f 6 1))), (a_bestChosen, .inl (cI, 8, .inl g))]) ⟨hx, hb, hml, hown, hts⟩ (cwV 3 hts gX9_triesBits_X9_triesBits rfl rfl rfl (by decide +kernel) ⟨Nat.le_of_ble_eq_true rfl, Nat.le_of_ble_eq_true rfl⟩) hN hK hP hD [2, 0, 1] rfl (by decide) rfl 2 rfl rfl rfl rfl hl.1 rfl (Nat.le_of_ble_eq_true rfl) dX9_triesBits_149 ⟨Nat.le_of_ble_eq_true rfl, Nat.le_of_ble_eq_true rfl⟩  ((k0_X9_triesBits_7 l D cI cJ m0 a_row a_tape a_number a_read a_readBits a_stands a_parted a_bitsWere a_stood a_chosen a_bestChosen a_often a_sorted a_risen a_risenWays i_thrown i_told i_taped i_at i_to i_readMany i_size (upd f 6 1) g) _)) (fun u H locs hp hP hD hS => ?_)
                                    obtain ⟨f_1, g_2, rfl⟩ := hp
                                    have hP : va_P D vwCl [(m0, .inr (9, [.int i_thrown, .int i_told, .ref a_row, .ref a_tape, .int i_taped, .int i_at, .int i_to, .int 0, .ref a_number, .ref a_read, .int i_readMany, .ref a_readBits, .ref a_stands, .ref a_parted, .ref a_bitsWere, .ref a_stood, .ref a_chosen, .ref a_bestChosen, .int 0, .ref a_often, .ref a_sorted, .int i_size, .ref a_risen, .ref a_risenWays])), (a_chosen, .inl (cI, 8, .inl f_1)), (a_bestChosen, .inl (cI, 8, .inl g_2))] H := hP
                                    have hD : va_D A [(m0, .inr (9, [.int i_thrown, .int i_told, .ref a_row, .ref a_tape, .int i_taped, .int i_at, .int i_to, .int 0, .ref a_number, .ref a_read, .int i_readMany, .ref a_readBits, .ref a_stands, .ref a_parted, .ref a_bitsWere, .ref a_stood, .ref a_chosen, .ref a_bestChosen, .int 0, .ref a_often, .ref a_sorted, .int i_size, .ref a_risen, .ref a_risenWays])), (a_chosen, .inl (cI, 8, .inl f_1)), (a_bestChosen, .inl (cI, 8, .inl g_2))] := hD
                                    refine lv_iconst (v := 0) hx hb dX9_triesBits_152 (by decide +kernel) ?_
                                    refine lv_istore (lv' := [(6, .int 0), (5, .int 0), (4, .int 1), (0, .ref m0), (1, .int 6), (2, .int 252), (3, .int 0)]) hx hb dX9_triesBits_153 hl (by decide) rfl (fun ls hl => ?_)
                                    refine lv_iload hx hb dX9_triesBits_155 (lv_at hl 0 rfl) ?_
                                    refine lv_aload_n hx hb dX9_triesBits_157 rfl (lv_at hl 3 rfl) ?_
                                    refine va_get (ci := 9) (v := .int 0) (C := RX9) (T := TX9) (N := 24) hx hb hts hi9 hown hK hP 0 rfl rfl 7 (by decide) fl88 (fun _ h9 => h9) rfl dX9_triesBits_158 ?_
                                    refine lv_icmp_ge (tgt := 189) hx hb dX9_triesBits_161 (by decide) (fun c161 => ?_) (fun c161 => ?_)
                                    ·
                                      refine lv_iinc (v := 0) (lv' := [(4, .int 0), (6, .int 0), (5, .int 0), (0, .ref m0), (1, .int 6), (2, .int 252), (3, .int 0)]) hx hb dX9_triesBits_189 hl (k := 2) rfl (by decide +kernel) (by decide) rfl (fun ls hl => ?_)
                                      refine lv_goto (tgt := 99) hx hb dX9_triesBits_192 (by decide) ?_
                                      refine lv_iload hx hb dX9_triesBits_99 (lv_at hl 0 rfl) ?_
                                      refine lv_if_lt (tgt := 195) hx hb dX9_triesBits_101 (by decide) (fun c101 => ?_) (fun c101 => ?_)
                                      ·
                                        exact absurd c101 (by decide +kernel)
                                      ·
                                        refine lv_iload_n hx hb dX9_triesBits_104 rfl (lv_at hl 5 rfl) ?_
                                        refine lv_iload hx hb dX9_triesBits_105 (lv_at hl 0 rfl) ?_
                                        refine lv_ishr hx hb dX9_triesBits_107 ?_
                                        refine my_eqi (y := 252) (by decide +kernel) ?_
                                        refine lv_iconst (v := 1) hx hb dX9_triesBits_108 (by decide +kernel) ?_
                                        refine lv_iand hx hb dX9_triesBits_109 ?_
                                        refine my_eqi (y := 0) (by decide +kernel) ?_
                                        refine lv_if_ne (tgt := 189) hx hb dX9_triesBits_110 (by decide) (fun c110 => ?_) (fun c110 => ?_)
                                        ·
                                          exact absurd c110 (by decide +kernel)
                                        ·
                                          refine lv_aload_n hx hb dX9_triesBits_113 rfl (lv_at hl 3 rfl) ?_
                                          refine va_get (ci := 9) (v := .ref a_chosen) (C := RX9) (T := TX9) (N := 24) hx hb hts hi9 hown hK hP 0 rfl rfl 16 (by decide) fl70 (fun _ h9 => h9) rfl dX9_triesBits_114 ?_
                                          refine lv_iload_n hx hb dX9_triesBits_117 rfl (lv_at hl 4 rfl) ?_
                                          refine lv_iload hx hb dX9_triesBits_118 (lv_at hl 0 rfl) ?_
                                          refine va_iast hx hb hK hP hD hS 1 0 rfl rfl (vp_in_nI (n := 6) (by omega) (by omega)) dX9_triesBits_120 (fun H locs hP hD hS => ?_)
                                          have eU : upd f_1 (6 : Int32).toNatClampNeg 0 = upd f_1 6 0 := by rw [show (6 : Int32).toNatClampNeg = 6 from by decide +kernel]
                                          rw [eU] at hP hD
                                          have hP : va_P D vwCl [(m0, .inr (9, [.int i_thrown, .int i_told, .ref a_row, .ref a_tape, .int i_taped, .int i_at, .int i_to, .int 0, .ref a_number, .ref a_read, .int i_readMany, .ref a_readBits, .ref a_stands, .ref a_parted, .ref a_bitsWere, .ref a_stood, .ref a_chosen, .ref a_bestChosen, .int 0, .ref a_often, .ref a_sorted, .int i_size, .ref a_risen, .ref a_risenWays])), (a_chosen, .inl (cI, 8, .inl (upd f_1 6 0))), (a_bestChosen, .inl (cI, 8, .inl g_2))] H := hP
                                          have hD : va_D A [(m0, .inr (9, [.int i_thrown, .int i_told, .ref a_row, .ref a_tape, .int i_taped, .int i_at, .int i_to, .int 0, .ref a_number, .ref a_read, .int i_readMany, .ref a_readBits, .ref a_stands, .ref a_parted, .ref a_bitsWere, .ref a_stood, .ref a_chosen, .ref a_bestChosen, .int 0, .ref a_often, .ref a_sorted, .int i_size, .ref a_risen, .ref a_risenWays])), (a_chosen, .inl (cI, 8, .inl (upd f_1 6 0))), (a_bestChosen, .inl (cI, 8, .inl g_2))] := hD
                                          refine lv_aload_n hx hb dX9_triesBits_121 rfl (lv_at hl 3 rfl) ?_
                                          refine lv_iload hx hb dX9_triesBits_122 (lv_at hl 0 rfl) ?_
                                          refine my_gpI (my_pV (As := [.int 0]) (rest := []) (ci := 9) ⟨hx, hb, hml, hown, hts⟩ (cwV 1 hts gX9_triesBits_X9_runsOf rfl rfl rfl (by decide +kernel) ⟨Nat.le_of_ble_eq_true rfl, Nat.le_of_ble_eq_true rfl⟩) hN hK hP [0] rfl 0 rfl rfl rfl rfl hl.1 rfl (Nat.le_of_ble_eq_true rfl) dX9_triesBits_124 ⟨Nat.le_of_ble_eq_true rfl, Nat.le_of_ble_eq_true rfl⟩  (k0_X9_runsOf l D cI cJ m0 a_row a_tape a_number a_read a_readBits a_stands a_parted a_bitsWere a_stood a_chosen a_bestChosen a_often a_sorted a_risen a_risenWays i_thrown i_told i_taped i_at i_to i_readMany (0 : Int32) i_size (0 : Int32))) (fun r hp => ?_)
                                          obtain rfl := hp
                                          refine lv_istore (lv' := [(5, .int 0), (4, .int 0), (6, .int 0), (0, .ref m0), (1, .int 6), (2, .int 252), (3, .int 0)]) hx hb dX9_triesBits_127 hl (by decide) rfl (fun ls hl => ?_)
                                          refine lv_aload_n hx hb dX9_triesBits_129 rfl (lv_at hl 3 rfl) ?_
                                          refine lv_iload hx hb dX9_triesBits_130 (lv_at hl 1 rfl) ?_
                                          refine my_goV (wr := [(a_chosen, .inl (cI, 8, .inl (upd f_1 6 0))), (a_bestChosen, .inl (cI, 8, .inl g_2))]) hP hD hS hA [0] [1, 2] rfl rfl (by decide) (by decide) (my_cV (As := [.int 0]) (rest := []) (ci := 9) (wc := [(m0, .inr (9, [.int i_thrown, .int i_told, .ref a_row, .ref a_tape, .int i_taped, .int i_at, .int i_to, .int 0, .ref a_number, .ref a_read, .int i_readMany, .ref a_readBits, .ref a_stands, .ref a_parted, .ref a_bitsWere, .ref a_stood, .ref a_chosen, .ref a_bestChosen, .int 0, .ref a_often, .ref a_sorted, .int i_size, .ref a_risen, .ref a_risenWays]))]) ⟨hx, hb, hml, hown, hts⟩ (cwV 1 hts gX9_triesBits_X9_parts rfl rfl rfl (by decide +kernel) ⟨Nat.le_of_ble_eq_true rfl, Nat.le_of_ble_eq_true rfl⟩) hN hK hP hD [0] rfl (by decide) rfl 0 rfl rfl rfl rfl hl.1 rfl (Nat.le_of_ble_eq_true rfl) dX9_triesBits_132 ⟨Nat.le_of_ble_eq_true rfl, Nat.le_of_ble_eq_true rfl⟩  ((k0_X9_parts l D cI cJ m0 a_row a_tape a_number a_read a_readBits a_stands a_parted a_bitsWere a_stood a_chosen a_bestChosen a_often a_sorted a_risen a_risenWays i_thrown i_told i_taped i_at i_to i_readMany (0 : Int32) i_size (0 : Int32)) _)) (fun u H locs hp hP hD hS => ?_)
                                          obtain rfl := hp
                                          have hP : va_P D vwCl [(a_chosen, .inl (cI, 8, .inl (upd f_1 6 0))), (a_bestChosen, .inl (cI, 8, .inl g_2)), (m0, .inr (9, [.int i_thrown, .int i_told, .ref a_row, .ref a_tape, .int i_taped, .int i_at, .int i_to, .int 0, .ref a_number, .ref a_read, .int i_readMany, .ref a_readBits, .ref a_stands, .ref a_parted, .ref a_bitsWere, .ref a_stood, .ref a_chosen, .ref a_bestChosen, .int 0, .ref a_often, .ref a_sorted, .int i_size, .ref a_risen, .ref a_risenWays]))] H := hP
                                          have hD : va_D A [(a_chosen, .inl (cI, 8, .inl (upd f_1 6 0))), (a_bestChosen, .inl (cI, 8, .inl g_2)), (m0, .inr (9, [.int i_thrown, .int i_told, .ref a_row, .ref a_tape, .int i_taped, .int i_at, .int i_to, .int 0, .ref a_number, .ref a_read, .int i_readMany, .ref a_readBits, .ref a_stands, .ref a_parted, .ref a_bitsWere, .ref a_stood, .ref a_chosen, .ref a_bestChosen, .int 0, .ref a_often, .ref a_sorted, .int i_size, .ref a_risen, .ref a_risenWays]))] := hD
                                          refine lv_aload_n hx hb dX9_triesBits_135 rfl (lv_at hl 3 rfl) ?_
                                          refine lv_iload_n hx hb dX9_triesBits_136 rfl (lv_at hl 4 rfl) ?_
                                          refine lv_iconst (v := 1) hx hb dX9_triesBits_137 (by decide +kernel) ?_
                                          refine lv_iadd hx hb dX9_triesBits_138 ?_
                                          refine my_eqi (y := 7) (by decide +kernel) ?_
                                          refine lv_iload_n hx hb dX9_triesBits_139 rfl (lv_at hl 5 rfl) ?_
                                          refine lv_iconst (v := 1) hx hb dX9_triesBits_140 (by decide +kernel) ?_
                                          refine lv_iload hx hb dX9_triesBits_141 (lv_at hl 1 rfl) ?_
                                          refine lv_ishl hx hb dX9_triesBits_143 ?_
                                          refine my_eqi (y := 1) (by decide +kernel) ?_
                                          refine lv_ior hx hb dX9_triesBits_144 ?_
                                          refine my_eqi (y := 253) (by decide +kernel) ?_
                                          refine lv_iload_n hx hb dX9_triesBits_145 rfl (lv_at hl 6 rfl) ?_
                                          refine lv_iload hx hb dX9_triesBits_146 (lv_at hl 0 rfl) ?_
                                          refine lv_iadd hx hb dX9_triesBits_148 ?_
                                          refine my_eqi (y := 0) (by decide +kernel) ?_
                                          refine my_goV (wr := [(a_chosen, .inl (cI, 8, .inl (upd f_1 6 0))), (a_bestChosen, .inl (cI, 8, .inl g_2))]) hP hD hS hA [2] [0, 1] rfl rfl (by decide) (by decide) (my_cV (As := [.int 7, .int 253, .int 0]) (rest := []) (ci := 9) (wc := [(m0, .inr (9, [.int i_thrown, .int i_told, .ref a_row, .ref a_tape, .int i_taped, .int i_at, .int i_to, .int 0, .ref a_number, .ref a_read, .int i_readMany, .ref a_readBits, .ref a_stands, .ref a_parted, .ref a_bitsWere, .ref a_stood, .ref a_chosen, .ref a_bestChosen, .int 0, .ref a_often, .ref a_sorted, .int i_size, .ref a_risen, .ref a_risenWays]))]) ⟨hx, hb, hml, hown, hts⟩ (cwV 3 hts gX9_triesBits_X9_triesBits rfl rfl rfl (by decide +kernel) ⟨Nat.le_of_ble_eq_true rfl, Nat.le_of_ble_eq_true rfl⟩) hN hK hP hD [2] rfl (by decide) rfl 2 rfl rfl rfl rfl hl.1 rfl (Nat.le_of_ble_eq_true rfl) dX9_triesBits_149 ⟨Nat.le_of_ble_eq_true rfl, Nat.le_of_ble_eq_true rfl⟩  ((kq_X9_triesBits l D cI cJ m0 a_row a_tape a_number a_read a_readBits a_stands a_parted a_bitsWere a_stood a_chosen a_bestChosen a_often a_sorted a_risen a_risenWays i_thrown i_told i_taped i_at i_to i_readMany i_size (7 : Int32) (253 : Int32)) _)) (fun u H locs hp hP hD hS => ?_)
                                          obtain rfl := hp
                                          have hP : va_P D vwCl [(a_chosen, .inl (cI, 8, .inl (upd f_1 6 0))), (a_bestChosen, .inl (cI, 8, .inl g_2)), (m0, .inr (9, [.int i_thrown, .int i_told, .ref a_row, .ref a_tape, .int i_taped, .int i_at, .int i_to, .int 0, .ref a_number, .ref a_read, .int i_readMany, .ref a_readBits, .ref a_stands, .ref a_parted, .ref a_bitsWere, .ref a_stood, .ref a_chosen, .ref a_bestChosen, .int 0, .ref a_often, .ref a_sorted, .int i_size, .ref a_risen, .ref a_risenWays]))] H := hP
                                          have hD : va_D A [(a_chosen, .inl (cI, 8, .inl (upd f_1 6 0))), (a_bestChosen, .inl (cI, 8, .inl g_2)), (m0, .inr (9, [.int i_thrown, .int i_told, .ref a_row, .ref a_tape, .int i_taped, .int i_at, .int i_to, .int 0, .ref a_number, .ref a_read, .int i_readMany, .ref a_readBits, .ref a_stands, .ref a_parted, .ref a_bitsWere, .ref a_stood, .ref a_chosen, .ref a_bestChosen, .int 0, .ref a_often, .ref a_sorted, .int i_size, .ref a_risen, .ref a_risenWays]))] := hD
                                          refine lv_iconst (v := 0) hx hb dX9_triesBits_152 (by decide +kernel) ?_
                                          refine lv_istore (lv' := [(6, .int 0), (5, .int 0), (4, .int 0), (0, .ref m0), (1, .int 6), (2, .int 252), (3, .int 0)]) hx hb dX9_triesBits_153 hl (by decide) rfl (fun ls hl => ?_)
                                          refine lv_iload hx hb dX9_triesBits_155 (lv_at hl 0 rfl) ?_
                                          refine lv_aload_n hx hb dX9_triesBits_157 rfl (lv_at hl 3 rfl) ?_
                                          refine va_get (ci := 9) (v := .int 0) (C := RX9) (T := TX9) (N := 24) hx hb hts hi9 hown hK hP 2 rfl rfl 7 (by decide) fl88 (fun _ h9 => h9) rfl dX9_triesBits_158 ?_
                                          refine lv_icmp_ge (tgt := 189) hx hb dX9_triesBits_161 (by decide) (fun c161 => ?_) (fun c161 => ?_)
                                          ·
                                            refine lv_iinc (v := (-1)) (lv' := [(4, .int (-1)), (6, .int 0), (5, .int 0), (0, .ref m0), (1, .int 6), (2, .int 252), (3, .int 0)]) hx hb dX9_triesBits_189 hl (k := 2) rfl (by decide +kernel) (by decide) rfl (fun ls hl => ?_)
                                            refine lv_goto (tgt := 99) hx hb dX9_triesBits_192 (by decide) ?_
                                            refine lv_iload hx hb dX9_triesBits_99 (lv_at hl 0 rfl) ?_
                                            refine lv_if_lt (tgt := 195) hx hb dX9_triesBits_101 (by decide) (fun c101 => ?_) (fun c101 => ?_)
                                            ·
                                              exact my_retV hx hb hr hlocks hK hS [(m0, .inr (9, [.int i_thrown, .int i_told, .ref a_row, .ref a_tape, .int i_taped, .int i_at, .int i_to, .int 0, .ref a_number, .ref a_read, .int i_readMany, .ref a_readBits, .ref a_stands, .ref a_parted, .ref a_bitsWere, .ref a_stood, .ref a_chosen, .ref a_bestChosen, .int 0, .ref a_often, .ref a_sorted, .int i_size, .ref a_risen, .ref a_risenWays])), (a_chosen, .inl (cI, 8, .inl (upd f_1 6 0))), (a_bestChosen, .inl (cI, 8, .inl g_2))] (hP.sub [2, 0, 1] rfl) (hD.sub [2, 0, 1] (by decide) rfl) (⟨(upd f_1 6 0), g_2, rfl⟩) dX9_triesBits_195
                                            ·
                                              exact absurd c101 (by decide +kernel)
                                          ·
                                            exact absurd c161 (by decide +kernel)
                                    ·
                                      exact absurd c161 (by decide +kernel)
                              ·
                                exact absurd c110 (by decide +kernel)
                          ·
                            exact absurd c110 (by decide +kernel)
                      ·
                        exact absurd c110 (by decide +kernel)
                  ·
                    exact absurd c110 (by decide +kernel)
              ·
                exact absurd c110 (by decide +kernel)
          ·
            exact absurd c110 (by decide +kernel)
      ·
        exact absurd c67 (by decide +kernel)
    ·
      exact absurd c19 (by decide +kernel)
  ·
    exact absurd c4 (by decide +kernel)
set_option maxHeartbeats 4000000 in
set_option maxRecDepth 100000 in
theorem k0_X9_triesBits_5 (l : Launch) (D : va_G) (cI cJ : ClassId) (m0 : Nat) (a_row : Nat) (a_tape : Nat) (a_number : Nat) (a_read : Nat) (a_readBits : Nat) (a_stands : Nat) (a_parted : Nat) (a_bitsWere : Nat) (a_stood : Nat) (a_chosen : Nat) (a_bestChosen : Nat) (a_often : Nat) (a_sorted : Nat) (a_risen : Nat) (a_risenWays : Nat) (i_thrown : Int32) (i_told : Int32) (i_taped : Int32) (i_at : Int32) (i_to : Int32) (i_readMany : Int32) (i_size : Int32) (f : Nat → Int32) (g : Nat → Int32) : ctV l yX9_triesBits wsX9_triesBits ({ frames := 3, cells := 0, slots := 0, locals := 180 } : Room) D (tyIJ cI cJ) [.ref m0, .int 5, .int 248, .int 0] [(m0, .inr (9, [.int i_thrown, .int i_told, .ref a_row, .ref a_tape, .int i_taped, .int i_at, .int i_to, .int 0, .ref a_number, .ref a_read, .int i_readMany, .ref a_readBits, .ref a_stands, .ref a_parted, .ref a_bitsWere, .ref a_stood, .ref a_chosen, .ref a_bestChosen, .int (-1), .ref a_often, .ref a_sorted, .int i_size, .ref a_risen, .ref a_risenWays])), (a_chosen, .inl (cI, 8, .inl f)), (a_bestChosen, .inl (cI, 8, .inl g))] (fun (u : va_W) => ∃ (f' : Nat → Int32) (g' : Nat → Int32), u = [(m0, .inr (9, [.int i_thrown, .int i_told, .ref a_row, .ref a_tape, .int i_taped, .int i_at, .int i_to, .int 0, .ref a_number, .ref a_read, .int i_readMany, .ref a_readBits, .ref a_stands, .ref a_parted, .ref a_bitsWere, .ref a_stood, .ref a_chosen, .ref a_bestChosen, .int 0, .ref a_often, .ref a_sorted, .int i_size, .ref a_risen, .ref a_risenWays])), (a_chosen, .inl (cI, 8, .inl f')), (a_bestChosen, .inl (cI, 8, .inl g'))]) := by
  refine ctV.of (cc := cX9_triesBits) (maxL := 7) (ret := none) (by decide) rfl (Nat.le_of_ble_eq_true rfl) ?_
  intro p e s m below meth c ls A hx hb hr hts hown hml hlocks hname hA hK hN hP hD hS hl
  have hl : lv_has ls 7 [(0, .ref m0), (1, .int 5), (2, .int 248), (3, .int 0)] := hl
  have hown : s.vm.findClass RX9 = some m.cls := hown
  have hi9 : ∀ w ∈ u_ws RX9 TX9 24, w ∈ wsX9_triesBits := by decide +kernel
  have fl162 := hts (.fieldLink RX9 162 "PlaneColumnModel" "fewest" "I") (by decide +kernel)
  have fl70 := hts (.fieldLink RX9 70 "PlaneColumnModel" "chosen" "[I") (by decide +kernel)
  have fl88 := hts (.fieldLink RX9 88 "PlaneColumnModel" "many" "I") (by decide +kernel)
  refine lv_aload_n hx hb dX9_triesBits_0 rfl (lv_at hl 0 rfl) ?_
  refine va_get (ci := 9) (v := .int (-1)) (C := RX9) (T := TX9) (N := 24) hx hb hts hi9 hown hK hP 0 rfl rfl 18 (by decide) fl162 (fun _ h9 => h9) rfl dX9_triesBits_1 ?_
  refine lv_if_lt (tgt := 16) hx hb dX9_triesBits_4 (by decide) (fun c4 => ?_) (fun c4 => ?_)
  ·
    refine lv_iload_n hx hb dX9_triesBits_16 rfl (lv_at hl 1 rfl) ?_
    refine lv_bipush (v := 8) hx hb dX9_triesBits_17 (by decide +kernel) ?_
    refine lv_icmp_ne (tgt := 58) hx hb dX9_triesBits_19 (by decide) (fun c19 => ?_) (fun c19 => ?_)
    ·
      refine lv_iconst (v := 0) hx hb dX9_triesBits_58 (by decide +kernel) ?_
      refine lv_istore (lv' := [(4, .int 0), (0, .ref m0), (1, .int 5), (2, .int 248), (3, .int 0)]) hx hb dX9_triesBits_59 hl (by decide) rfl (fun ls hl => ?_)
      refine lv_iload hx hb dX9_triesBits_61 (lv_at hl 0 rfl) ?_
      refine lv_aload_n hx hb dX9_triesBits_63 rfl (lv_at hl 1 rfl) ?_
      refine va_get (ci := 9) (v := .int 0) (C := RX9) (T := TX9) (N := 24) hx hb hts hi9 hown hK hP 0 rfl rfl 7 (by decide) fl88 (fun _ h9 => h9) rfl dX9_triesBits_64 ?_
      refine lv_icmp_ge (tgt := 95) hx hb dX9_triesBits_67 (by decide) (fun c67 => ?_) (fun c67 => ?_)
      ·
        refine lv_bipush (v := 7) hx hb dX9_triesBits_95 (by decide +kernel) ?_
        refine lv_istore (lv' := [(4, .int 7), (0, .ref m0), (1, .int 5), (2, .int 248), (3, .int 0)]) hx hb dX9_triesBits_97 hl (by decide) rfl (fun ls hl => ?_)
        refine lv_iload hx hb dX9_triesBits_99 (lv_at hl 0 rfl) ?_
        refine lv_if_lt (tgt := 195) hx hb dX9_triesBits_101 (by decide) (fun c101 => ?_) (fun c101 => ?_)
        ·
          exact absurd c101 (by decide +kernel)
        ·
          refine lv_iload_n hx hb dX9_triesBits_104 rfl (lv_at hl 3 rfl) ?_
          refine lv_iload hx hb dX9_triesBits_105 (lv_at hl 0 rfl) ?_
          refine lv_ishr hx hb dX9_triesBits_107 ?_
          refine my_eqi (y := 1) (by decide +kernel) ?_
          refine lv_iconst (v := 1) hx hb dX9_triesBits_108 (by decide +kernel) ?_
          refine lv_iand hx hb dX9_triesBits_109 ?_
          refine my_eqi (y := 1) (by decide +kernel) ?_
          refine lv_if_ne (tgt := 189) hx hb dX9_triesBits_110 (by decide) (fun c110 => ?_) (fun c110 => ?_)
          ·
            refine lv_iinc (v := 6) (lv' := [(4, .int 6), (0, .ref m0), (1, .int 5), (2, .int 248), (3, .int 0)]) hx hb dX9_triesBits_189 hl (k := 0) rfl (by decide +kernel) (by decide) rfl (fun ls hl => ?_)
            refine lv_goto (tgt := 99) hx hb dX9_triesBits_192 (by decide) ?_
            refine lv_iload hx hb dX9_triesBits_99 (lv_at hl 0 rfl) ?_
            refine lv_if_lt (tgt := 195) hx hb dX9_triesBits_101 (by decide) (fun c101 => ?_) (fun c101 => ?_)
            ·
              exact absurd c101 (by decide +kernel)
            ·
              refine lv_iload_n hx hb dX9_triesBits_104 rfl (lv_at hl 3 rfl) ?_
              refine lv_iload hx hb dX9_triesBits_105 (lv_at hl 0 rfl) ?_
              refine lv_ishr hx hb dX9_triesBits_107 ?_
              refine my_eqi (y := 3) (by decide +kernel) ?_
              refine lv_iconst (v := 1) hx hb dX9_triesBits_108 (by decide +kernel) ?_
              refine lv_iand hx hb dX9_triesBits_109 ?_
              refine my_eqi (y := 1) (by decide +kernel) ?_
              refine lv_if_ne (tgt := 189) hx hb dX9_triesBits_110 (by decide) (fun c110 => ?_) (fun c110 => ?_)
              ·
                refine lv_iinc (v := 5) (lv' := [(4, .int 5), (0, .ref m0), (1, .int 5), (2, .int 248), (3, .int 0)]) hx hb dX9_triesBits_189 hl (k := 0) rfl (by decide +kernel) (by decide) rfl (fun ls hl => ?_)
                refine lv_goto (tgt := 99) hx hb dX9_triesBits_192 (by decide) ?_
                refine lv_iload hx hb dX9_triesBits_99 (lv_at hl 0 rfl) ?_
                refine lv_if_lt (tgt := 195) hx hb dX9_triesBits_101 (by decide) (fun c101 => ?_) (fun c101 => ?_)
                ·
                  exact absurd c101 (by decide +kernel)
                ·
                  refine lv_iload_n hx hb dX9_triesBits_104 rfl (lv_at hl 3 rfl) ?_
                  refine lv_iload hx hb dX9_triesBits_105 (lv_at hl 0 rfl) ?_
                  refine lv_ishr hx hb dX9_triesBits_107 ?_
                  refine my_eqi (y := 7) (by decide +kernel) ?_
                  refine lv_iconst (v := 1) hx hb dX9_triesBits_108 (by decide +kernel) ?_
                  refine lv_iand hx hb dX9_triesBits_109 ?_
                  refine my_eqi (y := 1) (by decide +kernel) ?_
                  refine lv_if_ne (tgt := 189) hx hb dX9_triesBits_110 (by decide) (fun c110 => ?_) (fun c110 => ?_)
                  ·
                    refine lv_iinc (v := 4) (lv' := [(4, .int 4), (0, .ref m0), (1, .int 5), (2, .int 248), (3, .int 0)]) hx hb dX9_triesBits_189 hl (k := 0) rfl (by decide +kernel) (by decide) rfl (fun ls hl => ?_)
                    refine lv_goto (tgt := 99) hx hb dX9_triesBits_192 (by decide) ?_
                    refine lv_iload hx hb dX9_triesBits_99 (lv_at hl 0 rfl) ?_
                    refine lv_if_lt (tgt := 195) hx hb dX9_triesBits_101 (by decide) (fun c101 => ?_) (fun c101 => ?_)
                    ·
                      exact absurd c101 (by decide +kernel)
                    ·
                      refine lv_iload_n hx hb dX9_triesBits_104 rfl (lv_at hl 3 rfl) ?_
                      refine lv_iload hx hb dX9_triesBits_105 (lv_at hl 0 rfl) ?_
                      refine lv_ishr hx hb dX9_triesBits_107 ?_
                      refine my_eqi (y := 15) (by decide +kernel) ?_
                      refine lv_iconst (v := 1) hx hb dX9_triesBits_108 (by decide +kernel) ?_
                      refine lv_iand hx hb dX9_triesBits_109 ?_
                      refine my_eqi (y := 1) (by decide +kernel) ?_
                      refine lv_if_ne (tgt := 189) hx hb dX9_triesBits_110 (by decide) (fun c110 => ?_) (fun c110 => ?_)
                      ·
                        refine lv_iinc (v := 3) (lv' := [(4, .int 3), (0, .ref m0), (1, .int 5), (2, .int 248), (3, .int 0)]) hx hb dX9_triesBits_189 hl (k := 0) rfl (by decide +kernel) (by decide) rfl (fun ls hl => ?_)
                        refine lv_goto (tgt := 99) hx hb dX9_triesBits_192 (by decide) ?_
                        refine lv_iload hx hb dX9_triesBits_99 (lv_at hl 0 rfl) ?_
                        refine lv_if_lt (tgt := 195) hx hb dX9_triesBits_101 (by decide) (fun c101 => ?_) (fun c101 => ?_)
                        ·
                          exact absurd c101 (by decide +kernel)
                        ·
                          refine lv_iload_n hx hb dX9_triesBits_104 rfl (lv_at hl 3 rfl) ?_
                          refine lv_iload hx hb dX9_triesBits_105 (lv_at hl 0 rfl) ?_
                          refine lv_ishr hx hb dX9_triesBits_107 ?_
                          refine my_eqi (y := 31) (by decide +kernel) ?_
                          refine lv_iconst (v := 1) hx hb dX9_triesBits_108 (by decide +kernel) ?_
                          refine lv_iand hx hb dX9_triesBits_109 ?_
                          refine my_eqi (y := 1) (by decide +kernel) ?_
                          refine lv_if_ne (tgt := 189) hx hb dX9_triesBits_110 (by decide) (fun c110 => ?_) (fun c110 => ?_)
                          ·
                            refine lv_iinc (v := 2) (lv' := [(4, .int 2), (0, .ref m0), (1, .int 5), (2, .int 248), (3, .int 0)]) hx hb dX9_triesBits_189 hl (k := 0) rfl (by decide +kernel) (by decide) rfl (fun ls hl => ?_)
                            refine lv_goto (tgt := 99) hx hb dX9_triesBits_192 (by decide) ?_
                            refine lv_iload hx hb dX9_triesBits_99 (lv_at hl 0 rfl) ?_
                            refine lv_if_lt (tgt := 195) hx hb dX9_triesBits_101 (by decide) (fun c101 => ?_) (fun c101 => ?_)
                            ·
                              exact absurd c101 (by decide +kernel)
                            ·
                              refine lv_iload_n hx hb dX9_triesBits_104 rfl (lv_at hl 3 rfl) ?_
                              refine lv_iload hx hb dX9_triesBits_105 (lv_at hl 0 rfl) ?_
                              refine lv_ishr hx hb dX9_triesBits_107 ?_
                              refine my_eqi (y := 62) (by decide +kernel) ?_
                              refine lv_iconst (v := 1) hx hb dX9_triesBits_108 (by decide +kernel) ?_
                              refine lv_iand hx hb dX9_triesBits_109 ?_
                              refine my_eqi (y := 0) (by decide +kernel) ?_
                              refine lv_if_ne (tgt := 189) hx hb dX9_triesBits_110 (by decide) (fun c110 => ?_) (fun c110 => ?_)
                              ·
                                exact absurd c110 (by decide +kernel)
                              ·
                                refine lv_aload_n hx hb dX9_triesBits_113 rfl (lv_at hl 1 rfl) ?_
                                refine va_get (ci := 9) (v := .ref a_chosen) (C := RX9) (T := TX9) (N := 24) hx hb hts hi9 hown hK hP 0 rfl rfl 16 (by decide) fl70 (fun _ h9 => h9) rfl dX9_triesBits_114 ?_
                                refine lv_iload_n hx hb dX9_triesBits_117 rfl (lv_at hl 2 rfl) ?_
                                refine lv_iload hx hb dX9_triesBits_118 (lv_at hl 0 rfl) ?_
                                refine va_iast hx hb hK hP hD hS 1 0 rfl rfl (vp_in_nI (n := 5) (by omega) (by omega)) dX9_triesBits_120 (fun H locs hP hD hS => ?_)
                                have eU : upd f (5 : Int32).toNatClampNeg 2 = upd f 5 2 := by rw [show (5 : Int32).toNatClampNeg = 5 from by decide +kernel]
                                rw [eU] at hP hD
                                have hP : va_P D vwCl [(m0, .inr (9, [.int i_thrown, .int i_told, .ref a_row, .ref a_tape, .int i_taped, .int i_at, .int i_to, .int 0, .ref a_number, .ref a_read, .int i_readMany, .ref a_readBits, .ref a_stands, .ref a_parted, .ref a_bitsWere, .ref a_stood, .ref a_chosen, .ref a_bestChosen, .int (-1), .ref a_often, .ref a_sorted, .int i_size, .ref a_risen, .ref a_risenWays])), (a_chosen, .inl (cI, 8, .inl (upd f 5 2))), (a_bestChosen, .inl (cI, 8, .inl g))] H := hP
                                have hD : va_D A [(m0, .inr (9, [.int i_thrown, .int i_told, .ref a_row, .ref a_tape, .int i_taped, .int i_at, .int i_to, .int 0, .ref a_number, .ref a_read, .int i_readMany, .ref a_readBits, .ref a_stands, .ref a_parted, .ref a_bitsWere, .ref a_stood, .ref a_chosen, .ref a_bestChosen, .int (-1), .ref a_often, .ref a_sorted, .int i_size, .ref a_risen, .ref a_risenWays])), (a_chosen, .inl (cI, 8, .inl (upd f 5 2))), (a_bestChosen, .inl (cI, 8, .inl g))] := hD
                                refine lv_aload_n hx hb dX9_triesBits_121 rfl (lv_at hl 1 rfl) ?_
                                refine lv_iload hx hb dX9_triesBits_122 (lv_at hl 0 rfl) ?_
                                refine my_gpI (my_pV (As := [.int 2]) (rest := []) (ci := 9) ⟨hx, hb, hml, hown, hts⟩ (cwV 1 hts gX9_triesBits_X9_runsOf rfl rfl rfl (by decide +kernel) ⟨Nat.le_of_ble_eq_true rfl, Nat.le_of_ble_eq_true rfl⟩) hN hK hP [0] rfl 0 rfl rfl rfl rfl hl.1 rfl (Nat.le_of_ble_eq_true rfl) dX9_triesBits_124 ⟨Nat.le_of_ble_eq_true rfl, Nat.le_of_ble_eq_true rfl⟩  (k0_X9_runsOf l D cI cJ m0 a_row a_tape a_number a_read a_readBits a_stands a_parted a_bitsWere a_stood a_chosen a_bestChosen a_often a_sorted a_risen a_risenWays i_thrown i_told i_taped i_at i_to i_readMany (-1 : Int32) i_size (2 : Int32))) (fun r hp => ?_)
                                obtain rfl := hp
                                refine lv_istore (lv' := [(5, .int 0), (4, .int 2), (0, .ref m0), (1, .int 5), (2, .int 248), (3, .int 0)]) hx hb dX9_triesBits_127 hl (by decide) rfl (fun ls hl => ?_)
                                refine lv_aload_n hx hb dX9_triesBits_129 rfl (lv_at hl 2 rfl) ?_
                                refine lv_iload hx hb dX9_triesBits_130 (lv_at hl 1 rfl) ?_
                                refine my_goV (wr := [(a_chosen, .inl (cI, 8, .inl (upd f 5 2))), (a_bestChosen, .inl (cI, 8, .inl g))]) hP hD hS hA [0] [1, 2] rfl rfl (by decide) (by decide) (my_cV (As := [.int 2]) (rest := []) (ci := 9) (wc := [(m0, .inr (9, [.int i_thrown, .int i_told, .ref a_row, .ref a_tape, .int i_taped, .int i_at, .int i_to, .int 0, .ref a_number, .ref a_read, .int i_readMany, .ref a_readBits, .ref a_stands, .ref a_parted, .ref a_bitsWere, .ref a_stood, .ref a_chosen, .ref a_bestChosen, .int (-1), .ref a_often, .ref a_sorted, .int i_size, .ref a_risen, .ref a_risenWays]))]) ⟨hx, hb, hml, hown, hts⟩ (cwV 1 hts gX9_triesBits_X9_parts rfl rfl rfl (by decide +kernel) ⟨Nat.le_of_ble_eq_true rfl, Nat.le_of_ble_eq_true rfl⟩) hN hK hP hD [0] rfl (by decide) rfl 0 rfl rfl rfl rfl hl.1 rfl (Nat.le_of_ble_eq_true rfl) dX9_triesBits_132 ⟨Nat.le_of_ble_eq_true rfl, Nat.le_of_ble_eq_true rfl⟩  ((k0_X9_parts l D cI cJ m0 a_row a_tape a_number a_read a_readBits a_stands a_parted a_bitsWere a_stood a_chosen a_bestChosen a_often a_sorted a_risen a_risenWays i_thrown i_told i_taped i_at i_to i_readMany (-1 : Int32) i_size (2 : Int32)) _)) (fun u H locs hp hP hD hS => ?_)
                                obtain rfl := hp
                                have hP : va_P D vwCl [(a_chosen, .inl (cI, 8, .inl (upd f 5 2))), (a_bestChosen, .inl (cI, 8, .inl g)), (m0, .inr (9, [.int i_thrown, .int i_told, .ref a_row, .ref a_tape, .int i_taped, .int i_at, .int i_to, .int 0, .ref a_number, .ref a_read, .int i_readMany, .ref a_readBits, .ref a_stands, .ref a_parted, .ref a_bitsWere, .ref a_stood, .ref a_chosen, .ref a_bestChosen, .int (-1), .ref a_often, .ref a_sorted, .int i_size, .ref a_risen, .ref a_risenWays]))] H := hP
                                have hD : va_D A [(a_chosen, .inl (cI, 8, .inl (upd f 5 2))), (a_bestChosen, .inl (cI, 8, .inl g)), (m0, .inr (9, [.int i_thrown, .int i_told, .ref a_row, .ref a_tape, .int i_taped, .int i_at, .int i_to, .int 0, .ref a_number, .ref a_read, .int i_readMany, .ref a_readBits, .ref a_stands, .ref a_parted, .ref a_bitsWere, .ref a_stood, .ref a_chosen, .ref a_bestChosen, .int (-1), .ref a_often, .ref a_sorted, .int i_size, .ref a_risen, .ref a_risenWays]))] := hD
                                refine lv_aload_n hx hb dX9_triesBits_135 rfl (lv_at hl 2 rfl) ?_
                                refine lv_iload_n hx hb dX9_triesBits_136 rfl (lv_at hl 3 rfl) ?_
                                refine lv_iconst (v := 1) hx hb dX9_triesBits_137 (by decide +kernel) ?_
                                refine lv_iadd hx hb dX9_triesBits_138 ?_
                                refine my_eqi (y := 6) (by decide +kernel) ?_
                                refine lv_iload_n hx hb dX9_triesBits_139 rfl (lv_at hl 4 rfl) ?_
                                refine lv_iconst (v := 1) hx hb dX9_triesBits_140 (by decide +kernel) ?_
                                refine lv_iload hx hb dX9_triesBits_141 (lv_at hl 1 rfl) ?_
                                refine lv_ishl hx hb dX9_triesBits_143 ?_
                                refine my_eqi (y := 4) (by decide +kernel) ?_
                                refine lv_ior hx hb dX9_triesBits_144 ?_
                                refine my_eqi (y := 252) (by decide +kernel) ?_
                                refine lv_iload_n hx hb dX9_triesBits_145 rfl (lv_at hl 5 rfl) ?_
                                refine lv_iload hx hb dX9_triesBits_146 (lv_at hl 0 rfl) ?_
                                refine lv_iadd hx hb dX9_triesBits_148 ?_
                                refine my_eqi (y := 0) (by decide +kernel) ?_
                                refine my_goV (wr := []) hP hD hS hA [2, 0, 1] [] rfl rfl (by decide) (by decide) (my_cV (As := [.int 6, .int 252, .int 0]) (rest := []) (ci := 9) (wc := [(m0, .inr (9, [.int i_thrown, .int i_told, .ref a_row, .ref a_tape, .int i_taped, .int i_at, .int i_to, .int 0, .ref a_number, .ref a_read, .int i_readMany, .ref a_readBits, .ref a_stands, .ref a_parted, .ref a_bitsWere, .ref a_stood, .ref a_chosen, .ref a_bestChosen, .int (-1), .ref a_often, .ref a_sorted, .int i_size, .ref a_risen, .ref a_risenWays])), (a_chosen, .inl (cI, 8, .inl (upd f 5 2))), (a_bestChosen, .inl (cI, 8, .inl g))]) ⟨hx, hb, hml, hown, hts⟩ (cwV 3 hts gX9_triesBits_X9_triesBits rfl rfl rfl (by decide +kernel) ⟨Nat.le_of_ble_eq_true rfl, Nat.le_of_ble_eq_true rfl⟩) hN hK hP hD [2, 0, 1] rfl (by decide) rfl 2 rfl rfl rfl rfl hl.1 rfl (Nat.le_of_ble_eq_true rfl) dX9_triesBits_149 ⟨Nat.le_of_ble_eq_true rfl, Nat.le_of_ble_eq_true rfl⟩  ((k0_X9_triesBits_6 l D cI cJ m0 a_row a_tape a_number a_read a_readBits a_stands a_parted a_bitsWere a_stood a_chosen a_bestChosen a_often a_sorted a_risen a_risenWays i_thrown i_told i_taped i_at i_to i_readMany i_size (upd f 5 2) g) _)) (fun u H locs hp hP hD hS => ?_)
                                obtain ⟨f_1, g_2, rfl⟩ := hp
                                have hP : va_P D vwCl [(m0, .inr (9, [.int i_thrown, .int i_told, .ref a_row, .ref a_tape, .int i_taped, .int i_at, .int i_to, .int 0, .ref a_number, .ref a_read, .int i_readMany, .ref a_readBits, .ref a_stands, .ref a_parted, .ref a_bitsWere, .ref a_stood, .ref a_chosen, .ref a_bestChosen, .int 0, .ref a_often, .ref a_sorted, .int i_size, .ref a_risen, .ref a_risenWays])), (a_chosen, .inl (cI, 8, .inl f_1)), (a_bestChosen, .inl (cI, 8, .inl g_2))] H := hP
                                have hD : va_D A [(m0, .inr (9, [.int i_thrown, .int i_told, .ref a_row, .ref a_tape, .int i_taped, .int i_at, .int i_to, .int 0, .ref a_number, .ref a_read, .int i_readMany, .ref a_readBits, .ref a_stands, .ref a_parted, .ref a_bitsWere, .ref a_stood, .ref a_chosen, .ref a_bestChosen, .int 0, .ref a_often, .ref a_sorted, .int i_size, .ref a_risen, .ref a_risenWays])), (a_chosen, .inl (cI, 8, .inl f_1)), (a_bestChosen, .inl (cI, 8, .inl g_2))] := hD
                                refine lv_iconst (v := 0) hx hb dX9_triesBits_152 (by decide +kernel) ?_
                                refine lv_istore (lv' := [(6, .int 0), (5, .int 0), (4, .int 2), (0, .ref m0), (1, .int 5), (2, .int 248), (3, .int 0)]) hx hb dX9_triesBits_153 hl (by decide) rfl (fun ls hl => ?_)
                                refine lv_iload hx hb dX9_triesBits_155 (lv_at hl 0 rfl) ?_
                                refine lv_aload_n hx hb dX9_triesBits_157 rfl (lv_at hl 3 rfl) ?_
                                refine va_get (ci := 9) (v := .int 0) (C := RX9) (T := TX9) (N := 24) hx hb hts hi9 hown hK hP 0 rfl rfl 7 (by decide) fl88 (fun _ h9 => h9) rfl dX9_triesBits_158 ?_
                                refine lv_icmp_ge (tgt := 189) hx hb dX9_triesBits_161 (by decide) (fun c161 => ?_) (fun c161 => ?_)
                                ·
                                  refine lv_iinc (v := 1) (lv' := [(4, .int 1), (6, .int 0), (5, .int 0), (0, .ref m0), (1, .int 5), (2, .int 248), (3, .int 0)]) hx hb dX9_triesBits_189 hl (k := 2) rfl (by decide +kernel) (by decide) rfl (fun ls hl => ?_)
                                  refine lv_goto (tgt := 99) hx hb dX9_triesBits_192 (by decide) ?_
                                  refine lv_iload hx hb dX9_triesBits_99 (lv_at hl 0 rfl) ?_
                                  refine lv_if_lt (tgt := 195) hx hb dX9_triesBits_101 (by decide) (fun c101 => ?_) (fun c101 => ?_)
                                  ·
                                    exact absurd c101 (by decide +kernel)
                                  ·
                                    refine lv_iload_n hx hb dX9_triesBits_104 rfl (lv_at hl 5 rfl) ?_
                                    refine lv_iload hx hb dX9_triesBits_105 (lv_at hl 0 rfl) ?_
                                    refine lv_ishr hx hb dX9_triesBits_107 ?_
                                    refine my_eqi (y := 124) (by decide +kernel) ?_
                                    refine lv_iconst (v := 1) hx hb dX9_triesBits_108 (by decide +kernel) ?_
                                    refine lv_iand hx hb dX9_triesBits_109 ?_
                                    refine my_eqi (y := 0) (by decide +kernel) ?_
                                    refine lv_if_ne (tgt := 189) hx hb dX9_triesBits_110 (by decide) (fun c110 => ?_) (fun c110 => ?_)
                                    ·
                                      exact absurd c110 (by decide +kernel)
                                    ·
                                      refine lv_aload_n hx hb dX9_triesBits_113 rfl (lv_at hl 3 rfl) ?_
                                      refine va_get (ci := 9) (v := .ref a_chosen) (C := RX9) (T := TX9) (N := 24) hx hb hts hi9 hown hK hP 0 rfl rfl 16 (by decide) fl70 (fun _ h9 => h9) rfl dX9_triesBits_114 ?_
                                      refine lv_iload_n hx hb dX9_triesBits_117 rfl (lv_at hl 4 rfl) ?_
                                      refine lv_iload hx hb dX9_triesBits_118 (lv_at hl 0 rfl) ?_
                                      refine va_iast hx hb hK hP hD hS 1 0 rfl rfl (vp_in_nI (n := 5) (by omega) (by omega)) dX9_triesBits_120 (fun H locs hP hD hS => ?_)
                                      have eU : upd f_1 (5 : Int32).toNatClampNeg 1 = upd f_1 5 1 := by rw [show (5 : Int32).toNatClampNeg = 5 from by decide +kernel]
                                      rw [eU] at hP hD
                                      have hP : va_P D vwCl [(m0, .inr (9, [.int i_thrown, .int i_told, .ref a_row, .ref a_tape, .int i_taped, .int i_at, .int i_to, .int 0, .ref a_number, .ref a_read, .int i_readMany, .ref a_readBits, .ref a_stands, .ref a_parted, .ref a_bitsWere, .ref a_stood, .ref a_chosen, .ref a_bestChosen, .int 0, .ref a_often, .ref a_sorted, .int i_size, .ref a_risen, .ref a_risenWays])), (a_chosen, .inl (cI, 8, .inl (upd f_1 5 1))), (a_bestChosen, .inl (cI, 8, .inl g_2))] H := hP
                                      have hD : va_D A [(m0, .inr (9, [.int i_thrown, .int i_told, .ref a_row, .ref a_tape, .int i_taped, .int i_at, .int i_to, .int 0, .ref a_number, .ref a_read, .int i_readMany, .ref a_readBits, .ref a_stands, .ref a_parted, .ref a_bitsWere, .ref a_stood, .ref a_chosen, .ref a_bestChosen, .int 0, .ref a_often, .ref a_sorted, .int i_size, .ref a_risen, .ref a_risenWays])), (a_chosen, .inl (cI, 8, .inl (upd f_1 5 1))), (a_bestChosen, .inl (cI, 8, .inl g_2))] := hD
                                      refine lv_aload_n hx hb dX9_triesBits_121 rfl (lv_at hl 3 rfl) ?_
                                      refine lv_iload hx hb dX9_triesBits_122 (lv_at hl 0 rfl) ?_
                                      refine my_gpI (my_pV (As := [.int 1]) (rest := []) (ci := 9) ⟨hx, hb, hml, hown, hts⟩ (cwV 1 hts gX9_triesBits_X9_runsOf rfl rfl rfl (by decide +kernel) ⟨Nat.le_of_ble_eq_true rfl, Nat.le_of_ble_eq_true rfl⟩) hN hK hP [0] rfl 0 rfl rfl rfl rfl hl.1 rfl (Nat.le_of_ble_eq_true rfl) dX9_triesBits_124 ⟨Nat.le_of_ble_eq_true rfl, Nat.le_of_ble_eq_true rfl⟩  (k0_X9_runsOf l D cI cJ m0 a_row a_tape a_number a_read a_readBits a_stands a_parted a_bitsWere a_stood a_chosen a_bestChosen a_often a_sorted a_risen a_risenWays i_thrown i_told i_taped i_at i_to i_readMany (0 : Int32) i_size (1 : Int32))) (fun r hp => ?_)
                                      obtain rfl := hp
                                      refine lv_istore (lv' := [(5, .int 0), (4, .int 1), (6, .int 0), (0, .ref m0), (1, .int 5), (2, .int 248), (3, .int 0)]) hx hb dX9_triesBits_127 hl (by decide) rfl (fun ls hl => ?_)
                                      refine lv_aload_n hx hb dX9_triesBits_129 rfl (lv_at hl 3 rfl) ?_
                                      refine lv_iload hx hb dX9_triesBits_130 (lv_at hl 1 rfl) ?_
                                      refine my_goV (wr := [(a_chosen, .inl (cI, 8, .inl (upd f_1 5 1))), (a_bestChosen, .inl (cI, 8, .inl g_2))]) hP hD hS hA [0] [1, 2] rfl rfl (by decide) (by decide) (my_cV (As := [.int 1]) (rest := []) (ci := 9) (wc := [(m0, .inr (9, [.int i_thrown, .int i_told, .ref a_row, .ref a_tape, .int i_taped, .int i_at, .int i_to, .int 0, .ref a_number, .ref a_read, .int i_readMany, .ref a_readBits, .ref a_stands, .ref a_parted, .ref a_bitsWere, .ref a_stood, .ref a_chosen, .ref a_bestChosen, .int 0, .ref a_often, .ref a_sorted, .int i_size, .ref a_risen, .ref a_risenWays]))]) ⟨hx, hb, hml, hown, hts⟩ (cwV 1 hts gX9_triesBits_X9_parts rfl rfl rfl (by decide +kernel) ⟨Nat.le_of_ble_eq_true rfl, Nat.le_of_ble_eq_true rfl⟩) hN hK hP hD [0] rfl (by decide) rfl 0 rfl rfl rfl rfl hl.1 rfl (Nat.le_of_ble_eq_true rfl) dX9_triesBits_132 ⟨Nat.le_of_ble_eq_true rfl, Nat.le_of_ble_eq_true rfl⟩  ((k0_X9_parts l D cI cJ m0 a_row a_tape a_number a_read a_readBits a_stands a_parted a_bitsWere a_stood a_chosen a_bestChosen a_often a_sorted a_risen a_risenWays i_thrown i_told i_taped i_at i_to i_readMany (0 : Int32) i_size (1 : Int32)) _)) (fun u H locs hp hP hD hS => ?_)
                                      obtain rfl := hp
                                      have hP : va_P D vwCl [(a_chosen, .inl (cI, 8, .inl (upd f_1 5 1))), (a_bestChosen, .inl (cI, 8, .inl g_2)), (m0, .inr (9, [.int i_thrown, .int i_told, .ref a_row, .ref a_tape, .int i_taped, .int i_at, .int i_to, .int 0, .ref a_number, .ref a_read, .int i_readMany, .ref a_readBits, .ref a_stands, .ref a_parted, .ref a_bitsWere, .ref a_stood, .ref a_chosen, .ref a_bestChosen, .int 0, .ref a_often, .ref a_sorted, .int i_size, .ref a_risen, .ref a_risenWays]))] H := hP
                                      have hD : va_D A [(a_chosen, .inl (cI, 8, .inl (upd f_1 5 1))), (a_bestChosen, .inl (cI, 8, .inl g_2)), (m0, .inr (9, [.int i_thrown, .int i_told, .ref a_row, .ref a_tape, .int i_taped, .int i_at, .int i_to, .int 0, .ref a_number, .ref a_read, .int i_readMany, .ref a_readBits, .ref a_stands, .ref a_parted, .ref a_bitsWere, .ref a_stood, .ref a_chosen, .ref a_bestChosen, .int 0, .ref a_often, .ref a_sorted, .int i_size, .ref a_risen, .ref a_risenWays]))] := hD
                                      refine lv_aload_n hx hb dX9_triesBits_135 rfl (lv_at hl 3 rfl) ?_
                                      refine lv_iload_n hx hb dX9_triesBits_136 rfl (lv_at hl 4 rfl) ?_
                                      refine lv_iconst (v := 1) hx hb dX9_triesBits_137 (by decide +kernel) ?_
                                      refine lv_iadd hx hb dX9_triesBits_138 ?_
                                      refine my_eqi (y := 6) (by decide +kernel) ?_
                                      refine lv_iload_n hx hb dX9_triesBits_139 rfl (lv_at hl 5 rfl) ?_
                                      refine lv_iconst (v := 1) hx hb dX9_triesBits_140 (by decide +kernel) ?_
                                      refine lv_iload hx hb dX9_triesBits_141 (lv_at hl 1 rfl) ?_
                                      refine lv_ishl hx hb dX9_triesBits_143 ?_
                                      refine my_eqi (y := 2) (by decide +kernel) ?_
                                      refine lv_ior hx hb dX9_triesBits_144 ?_
                                      refine my_eqi (y := 250) (by decide +kernel) ?_
                                      refine lv_iload_n hx hb dX9_triesBits_145 rfl (lv_at hl 6 rfl) ?_
                                      refine lv_iload hx hb dX9_triesBits_146 (lv_at hl 0 rfl) ?_
                                      refine lv_iadd hx hb dX9_triesBits_148 ?_
                                      refine my_eqi (y := 0) (by decide +kernel) ?_
                                      refine my_goV (wr := [(a_chosen, .inl (cI, 8, .inl (upd f_1 5 1))), (a_bestChosen, .inl (cI, 8, .inl g_2))]) hP hD hS hA [2] [0, 1] rfl rfl (by decide) (by decide) (my_cV (As := [.int 6, .int 250, .int 0]) (rest := []) (ci := 9) (wc := [(m0, .inr (9, [.int i_thrown, .int i_told, .ref a_row, .ref a_tape, .int i_taped, .int i_at, .int i_to, .int 0, .ref a_number, .ref a_read, .int i_readMany, .ref a_readBits, .ref a_stands, .ref a_parted, .ref a_bitsWere, .ref a_stood, .ref a_chosen, .ref a_bestChosen, .int 0, .ref a_often, .ref a_sorted, .int i_size, .ref a_risen, .ref a_risenWays]))]) ⟨hx, hb, hml, hown, hts⟩ (cwV 3 hts gX9_triesBits_X9_triesBits rfl rfl rfl (by decide +kernel) ⟨Nat.le_of_ble_eq_true rfl, Nat.le_of_ble_eq_true rfl⟩) hN hK hP hD [2] rfl (by decide) rfl 2 rfl rfl rfl rfl hl.1 rfl (Nat.le_of_ble_eq_true rfl) dX9_triesBits_149 ⟨Nat.le_of_ble_eq_true rfl, Nat.le_of_ble_eq_true rfl⟩  ((kq_X9_triesBits l D cI cJ m0 a_row a_tape a_number a_read a_readBits a_stands a_parted a_bitsWere a_stood a_chosen a_bestChosen a_often a_sorted a_risen a_risenWays i_thrown i_told i_taped i_at i_to i_readMany i_size (6 : Int32) (250 : Int32)) _)) (fun u H locs hp hP hD hS => ?_)
                                      obtain rfl := hp
                                      have hP : va_P D vwCl [(a_chosen, .inl (cI, 8, .inl (upd f_1 5 1))), (a_bestChosen, .inl (cI, 8, .inl g_2)), (m0, .inr (9, [.int i_thrown, .int i_told, .ref a_row, .ref a_tape, .int i_taped, .int i_at, .int i_to, .int 0, .ref a_number, .ref a_read, .int i_readMany, .ref a_readBits, .ref a_stands, .ref a_parted, .ref a_bitsWere, .ref a_stood, .ref a_chosen, .ref a_bestChosen, .int 0, .ref a_often, .ref a_sorted, .int i_size, .ref a_risen, .ref a_risenWays]))] H := hP
                                      have hD : va_D A [(a_chosen, .inl (cI, 8, .inl (upd f_1 5 1))), (a_bestChosen, .inl (cI, 8, .inl g_2)), (m0, .inr (9, [.int i_thrown, .int i_told, .ref a_row, .ref a_tape, .int i_taped, .int i_at, .int i_to, .int 0, .ref a_number, .ref a_read, .int i_readMany, .ref a_readBits, .ref a_stands, .ref a_parted, .ref a_bitsWere, .ref a_stood, .ref a_chosen, .ref a_bestChosen, .int 0, .ref a_often, .ref a_sorted, .int i_size, .ref a_risen, .ref a_risenWays]))] := hD
                                      refine lv_iconst (v := 0) hx hb dX9_triesBits_152 (by decide +kernel) ?_
                                      refine lv_istore (lv' := [(6, .int 0), (5, .int 0), (4, .int 1), (0, .ref m0), (1, .int 5), (2, .int 248), (3, .int 0)]) hx hb dX9_triesBits_153 hl (by decide) rfl (fun ls hl => ?_)
                                      refine lv_iload hx hb dX9_triesBits_155 (lv_at hl 0 rfl) ?_
                                      refine lv_aload_n hx hb dX9_triesBits_157 rfl (lv_at hl 3 rfl) ?_
                                      refine va_get (ci := 9) (v := .int 0) (C := RX9) (T := TX9) (N := 24) hx hb hts hi9 hown hK hP 2 rfl rfl 7 (by decide) fl88 (fun _ h9 => h9) rfl dX9_triesBits_158 ?_
                                      refine lv_icmp_ge (tgt := 189) hx hb dX9_triesBits_161 (by decide) (fun c161 => ?_) (fun c161 => ?_)
                                      ·
                                        refine lv_iinc (v := 0) (lv' := [(4, .int 0), (6, .int 0), (5, .int 0), (0, .ref m0), (1, .int 5), (2, .int 248), (3, .int 0)]) hx hb dX9_triesBits_189 hl (k := 2) rfl (by decide +kernel) (by decide) rfl (fun ls hl => ?_)
                                        refine lv_goto (tgt := 99) hx hb dX9_triesBits_192 (by decide) ?_
                                        refine lv_iload hx hb dX9_triesBits_99 (lv_at hl 0 rfl) ?_
                                        refine lv_if_lt (tgt := 195) hx hb dX9_triesBits_101 (by decide) (fun c101 => ?_) (fun c101 => ?_)
                                        ·
                                          exact absurd c101 (by decide +kernel)
                                        ·
                                          refine lv_iload_n hx hb dX9_triesBits_104 rfl (lv_at hl 5 rfl) ?_
                                          refine lv_iload hx hb dX9_triesBits_105 (lv_at hl 0 rfl) ?_
                                          refine lv_ishr hx hb dX9_triesBits_107 ?_
                                          refine my_eqi (y := 248) (by decide +kernel) ?_
                                          refine lv_iconst (v := 1) hx hb dX9_triesBits_108 (by decide +kernel) ?_
                                          refine lv_iand hx hb dX9_triesBits_109 ?_
                                          refine my_eqi (y := 0) (by decide +kernel) ?_
                                          refine lv_if_ne (tgt := 189) hx hb dX9_triesBits_110 (by decide) (fun c110 => ?_) (fun c110 => ?_)
                                          ·
                                            exact absurd c110 (by decide +kernel)
                                          ·
                                            refine lv_aload_n hx hb dX9_triesBits_113 rfl (lv_at hl 3 rfl) ?_
                                            refine va_get (ci := 9) (v := .ref a_chosen) (C := RX9) (T := TX9) (N := 24) hx hb hts hi9 hown hK hP 2 rfl rfl 16 (by decide) fl70 (fun _ h9 => h9) rfl dX9_triesBits_114 ?_
                                            refine lv_iload_n hx hb dX9_triesBits_117 rfl (lv_at hl 4 rfl) ?_
                                            refine lv_iload hx hb dX9_triesBits_118 (lv_at hl 0 rfl) ?_
                                            refine va_iast hx hb hK hP hD hS 0 0 rfl rfl (vp_in_nI (n := 5) (by omega) (by omega)) dX9_triesBits_120 (fun H locs hP hD hS => ?_)
                                            have eU : upd (upd f_1 5 1) (5 : Int32).toNatClampNeg 0 = upd (upd f_1 5 1) 5 0 := by rw [show (5 : Int32).toNatClampNeg = 5 from by decide +kernel]
                                            rw [eU] at hP hD
                                            have hP : va_P D vwCl [(a_chosen, .inl (cI, 8, .inl (upd (upd f_1 5 1) 5 0))), (a_bestChosen, .inl (cI, 8, .inl g_2)), (m0, .inr (9, [.int i_thrown, .int i_told, .ref a_row, .ref a_tape, .int i_taped, .int i_at, .int i_to, .int 0, .ref a_number, .ref a_read, .int i_readMany, .ref a_readBits, .ref a_stands, .ref a_parted, .ref a_bitsWere, .ref a_stood, .ref a_chosen, .ref a_bestChosen, .int 0, .ref a_often, .ref a_sorted, .int i_size, .ref a_risen, .ref a_risenWays]))] H := hP
                                            have hD : va_D A [(a_chosen, .inl (cI, 8, .inl (upd (upd f_1 5 1) 5 0))), (a_bestChosen, .inl (cI, 8, .inl g_2)), (m0, .inr (9, [.int i_thrown, .int i_told, .ref a_row, .ref a_tape, .int i_taped, .int i_at, .int i_to, .int 0, .ref a_number, .ref a_read, .int i_readMany, .ref a_readBits, .ref a_stands, .ref a_parted, .ref a_bitsWere, .ref a_stood, .ref a_chosen, .ref a_bestChosen, .int 0, .ref a_often, .ref a_sorted, .int i_size, .ref a_risen, .ref a_risenWays]))] := hD
                                            refine lv_aload_n hx hb dX9_triesBits_121 rfl (lv_at hl 3 rfl) ?_
                                            refine lv_iload hx hb dX9_triesBits_122 (lv_at hl 0 rfl) ?_
                                            refine my_gpI (my_pV (As := [.int 0]) (rest := []) (ci := 9) ⟨hx, hb, hml, hown, hts⟩ (cwV 1 hts gX9_triesBits_X9_runsOf rfl rfl rfl (by decide +kernel) ⟨Nat.le_of_ble_eq_true rfl, Nat.le_of_ble_eq_true rfl⟩) hN hK hP [2] rfl 2 rfl rfl rfl rfl hl.1 rfl (Nat.le_of_ble_eq_true rfl) dX9_triesBits_124 ⟨Nat.le_of_ble_eq_true rfl, Nat.le_of_ble_eq_true rfl⟩  (k0_X9_runsOf l D cI cJ m0 a_row a_tape a_number a_read a_readBits a_stands a_parted a_bitsWere a_stood a_chosen a_bestChosen a_often a_sorted a_risen a_risenWays i_thrown i_told i_taped i_at i_to i_readMany (0 : Int32) i_size (0 : Int32))) (fun r hp => ?_)
                                            obtain rfl := hp
                                            refine lv_istore (lv' := [(5, .int 0), (4, .int 0), (6, .int 0), (0, .ref m0), (1, .int 5), (2, .int 248), (3, .int 0)]) hx hb dX9_triesBits_127 hl (by decide) rfl (fun ls hl => ?_)
                                            refine lv_aload_n hx hb dX9_triesBits_129 rfl (lv_at hl 3 rfl) ?_
                                            refine lv_iload hx hb dX9_triesBits_130 (lv_at hl 1 rfl) ?_
                                            refine my_goV (wr := [(a_chosen, .inl (cI, 8, .inl (upd (upd f_1 5 1) 5 0))), (a_bestChosen, .inl (cI, 8, .inl g_2))]) hP hD hS hA [2] [0, 1] rfl rfl (by decide) (by decide) (my_cV (As := [.int 0]) (rest := []) (ci := 9) (wc := [(m0, .inr (9, [.int i_thrown, .int i_told, .ref a_row, .ref a_tape, .int i_taped, .int i_at, .int i_to, .int 0, .ref a_number, .ref a_read, .int i_readMany, .ref a_readBits, .ref a_stands, .ref a_parted, .ref a_bitsWere, .ref a_stood, .ref a_chosen, .ref a_bestChosen, .int 0, .ref a_often, .ref a_sorted, .int i_size, .ref a_risen, .ref a_risenWays]))]) ⟨hx, hb, hml, hown, hts⟩ (cwV 1 hts gX9_triesBits_X9_parts rfl rfl rfl (by decide +kernel) ⟨Nat.le_of_ble_eq_true rfl, Nat.le_of_ble_eq_true rfl⟩) hN hK hP hD [2] rfl (by decide) rfl 2 rfl rfl rfl rfl hl.1 rfl (Nat.le_of_ble_eq_true rfl) dX9_triesBits_132 ⟨Nat.le_of_ble_eq_true rfl, Nat.le_of_ble_eq_true rfl⟩  ((k0_X9_parts l D cI cJ m0 a_row a_tape a_number a_read a_readBits a_stands a_parted a_bitsWere a_stood a_chosen a_bestChosen a_often a_sorted a_risen a_risenWays i_thrown i_told i_taped i_at i_to i_readMany (0 : Int32) i_size (0 : Int32)) _)) (fun u H locs hp hP hD hS => ?_)
                                            obtain rfl := hp
                                            have hP : va_P D vwCl [(a_chosen, .inl (cI, 8, .inl (upd (upd f_1 5 1) 5 0))), (a_bestChosen, .inl (cI, 8, .inl g_2)), (m0, .inr (9, [.int i_thrown, .int i_told, .ref a_row, .ref a_tape, .int i_taped, .int i_at, .int i_to, .int 0, .ref a_number, .ref a_read, .int i_readMany, .ref a_readBits, .ref a_stands, .ref a_parted, .ref a_bitsWere, .ref a_stood, .ref a_chosen, .ref a_bestChosen, .int 0, .ref a_often, .ref a_sorted, .int i_size, .ref a_risen, .ref a_risenWays]))] H := hP
                                            have hD : va_D A [(a_chosen, .inl (cI, 8, .inl (upd (upd f_1 5 1) 5 0))), (a_bestChosen, .inl (cI, 8, .inl g_2)), (m0, .inr (9, [.int i_thrown, .int i_told, .ref a_row, .ref a_tape, .int i_taped, .int i_at, .int i_to, .int 0, .ref a_number, .ref a_read, .int i_readMany, .ref a_readBits, .ref a_stands, .ref a_parted, .ref a_bitsWere, .ref a_stood, .ref a_chosen, .ref a_bestChosen, .int 0, .ref a_often, .ref a_sorted, .int i_size, .ref a_risen, .ref a_risenWays]))] := hD
                                            refine lv_aload_n hx hb dX9_triesBits_135 rfl (lv_at hl 3 rfl) ?_
                                            refine lv_iload_n hx hb dX9_triesBits_136 rfl (lv_at hl 4 rfl) ?_
                                            refine lv_iconst (v := 1) hx hb dX9_triesBits_137 (by decide +kernel) ?_
                                            refine lv_iadd hx hb dX9_triesBits_138 ?_
                                            refine my_eqi (y := 6) (by decide +kernel) ?_
                                            refine lv_iload_n hx hb dX9_triesBits_139 rfl (lv_at hl 5 rfl) ?_
                                            refine lv_iconst (v := 1) hx hb dX9_triesBits_140 (by decide +kernel) ?_
                                            refine lv_iload hx hb dX9_triesBits_141 (lv_at hl 1 rfl) ?_
                                            refine lv_ishl hx hb dX9_triesBits_143 ?_
                                            refine my_eqi (y := 1) (by decide +kernel) ?_
                                            refine lv_ior hx hb dX9_triesBits_144 ?_
                                            refine my_eqi (y := 249) (by decide +kernel) ?_
                                            refine lv_iload_n hx hb dX9_triesBits_145 rfl (lv_at hl 6 rfl) ?_
                                            refine lv_iload hx hb dX9_triesBits_146 (lv_at hl 0 rfl) ?_
                                            refine lv_iadd hx hb dX9_triesBits_148 ?_
                                            refine my_eqi (y := 0) (by decide +kernel) ?_
                                            refine my_goV (wr := [(a_chosen, .inl (cI, 8, .inl (upd (upd f_1 5 1) 5 0))), (a_bestChosen, .inl (cI, 8, .inl g_2))]) hP hD hS hA [2] [0, 1] rfl rfl (by decide) (by decide) (my_cV (As := [.int 6, .int 249, .int 0]) (rest := []) (ci := 9) (wc := [(m0, .inr (9, [.int i_thrown, .int i_told, .ref a_row, .ref a_tape, .int i_taped, .int i_at, .int i_to, .int 0, .ref a_number, .ref a_read, .int i_readMany, .ref a_readBits, .ref a_stands, .ref a_parted, .ref a_bitsWere, .ref a_stood, .ref a_chosen, .ref a_bestChosen, .int 0, .ref a_often, .ref a_sorted, .int i_size, .ref a_risen, .ref a_risenWays]))]) ⟨hx, hb, hml, hown, hts⟩ (cwV 3 hts gX9_triesBits_X9_triesBits rfl rfl rfl (by decide +kernel) ⟨Nat.le_of_ble_eq_true rfl, Nat.le_of_ble_eq_true rfl⟩) hN hK hP hD [2] rfl (by decide) rfl 2 rfl rfl rfl rfl hl.1 rfl (Nat.le_of_ble_eq_true rfl) dX9_triesBits_149 ⟨Nat.le_of_ble_eq_true rfl, Nat.le_of_ble_eq_true rfl⟩  ((kq_X9_triesBits l D cI cJ m0 a_row a_tape a_number a_read a_readBits a_stands a_parted a_bitsWere a_stood a_chosen a_bestChosen a_often a_sorted a_risen a_risenWays i_thrown i_told i_taped i_at i_to i_readMany i_size (6 : Int32) (249 : Int32)) _)) (fun u H locs hp hP hD hS => ?_)
                                            obtain rfl := hp
                                            have hP : va_P D vwCl [(a_chosen, .inl (cI, 8, .inl (upd (upd f_1 5 1) 5 0))), (a_bestChosen, .inl (cI, 8, .inl g_2)), (m0, .inr (9, [.int i_thrown, .int i_told, .ref a_row, .ref a_tape, .int i_taped, .int i_at, .int i_to, .int 0, .ref a_number, .ref a_read, .int i_readMany, .ref a_readBits, .ref a_stands, .ref a_parted, .ref a_bitsWere, .ref a_stood, .ref a_chosen, .ref a_bestChosen, .int 0, .ref a_often, .ref a_sorted, .int i_size, .ref a_risen, .ref a_risenWays]))] H := hP
                                            have hD : va_D A [(a_chosen, .inl (cI, 8, .inl (upd (upd f_1 5 1) 5 0))), (a_bestChosen, .inl (cI, 8, .inl g_2)), (m0, .inr (9, [.int i_thrown, .int i_told, .ref a_row, .ref a_tape, .int i_taped, .int i_at, .int i_to, .int 0, .ref a_number, .ref a_read, .int i_readMany, .ref a_readBits, .ref a_stands, .ref a_parted, .ref a_bitsWere, .ref a_stood, .ref a_chosen, .ref a_bestChosen, .int 0, .ref a_often, .ref a_sorted, .int i_size, .ref a_risen, .ref a_risenWays]))] := hD
                                            refine lv_iconst (v := 0) hx hb dX9_triesBits_152 (by decide +kernel) ?_
                                            refine lv_istore (lv' := [(6, .int 0), (5, .int 0), (4, .int 0), (0, .ref m0), (1, .int 5), (2, .int 248), (3, .int 0)]) hx hb dX9_triesBits_153 hl (by decide) rfl (fun ls hl => ?_)
                                            refine lv_iload hx hb dX9_triesBits_155 (lv_at hl 0 rfl) ?_
                                            refine lv_aload_n hx hb dX9_triesBits_157 rfl (lv_at hl 3 rfl) ?_
                                            refine va_get (ci := 9) (v := .int 0) (C := RX9) (T := TX9) (N := 24) hx hb hts hi9 hown hK hP 2 rfl rfl 7 (by decide) fl88 (fun _ h9 => h9) rfl dX9_triesBits_158 ?_
                                            refine lv_icmp_ge (tgt := 189) hx hb dX9_triesBits_161 (by decide) (fun c161 => ?_) (fun c161 => ?_)
                                            ·
                                              refine lv_iinc (v := (-1)) (lv' := [(4, .int (-1)), (6, .int 0), (5, .int 0), (0, .ref m0), (1, .int 5), (2, .int 248), (3, .int 0)]) hx hb dX9_triesBits_189 hl (k := 2) rfl (by decide +kernel) (by decide) rfl (fun ls hl => ?_)
                                              refine lv_goto (tgt := 99) hx hb dX9_triesBits_192 (by decide) ?_
                                              refine lv_iload hx hb dX9_triesBits_99 (lv_at hl 0 rfl) ?_
                                              refine lv_if_lt (tgt := 195) hx hb dX9_triesBits_101 (by decide) (fun c101 => ?_) (fun c101 => ?_)
                                              ·
                                                exact my_retV hx hb hr hlocks hK hS [(m0, .inr (9, [.int i_thrown, .int i_told, .ref a_row, .ref a_tape, .int i_taped, .int i_at, .int i_to, .int 0, .ref a_number, .ref a_read, .int i_readMany, .ref a_readBits, .ref a_stands, .ref a_parted, .ref a_bitsWere, .ref a_stood, .ref a_chosen, .ref a_bestChosen, .int 0, .ref a_often, .ref a_sorted, .int i_size, .ref a_risen, .ref a_risenWays])), (a_chosen, .inl (cI, 8, .inl (upd (upd f_1 5 1) 5 0))), (a_bestChosen, .inl (cI, 8, .inl g_2))] (hP.sub [2, 0, 1] rfl) (hD.sub [2, 0, 1] (by decide) rfl) (⟨(upd (upd f_1 5 1) 5 0), g_2, rfl⟩) dX9_triesBits_195
                                              ·
                                                exact absurd c101 (by decide +kernel)
                                            ·
                                              exact absurd c161 (by decide +kernel)
                                      ·
                                        exact absurd c161 (by decide +kernel)
                                ·
                                  exact absurd c161 (by decide +kernel)
                          ·
                            exact absurd c110 (by decide +kernel)
                      ·
                        exact absurd c110 (by decide +kernel)
                  ·
                    exact absurd c110 (by decide +kernel)
              ·
                exact absurd c110 (by decide +kernel)
          ·
            exact absurd c110 (by decide +kernel)
      ·
        exact absurd c67 (by decide +kernel)
    ·
      exact absurd c19 (by decide +kernel)
  ·
    exact absurd c4 (by decide +kernel)
set_option maxHeartbeats 4000000 in
set_option maxRecDepth 100000 in
theorem k0_X9_triesBits_4 (l : Launch) (D : va_G) (cI cJ : ClassId) (m0 : Nat) (a_row : Nat) (a_tape : Nat) (a_number : Nat) (a_read : Nat) (a_readBits : Nat) (a_stands : Nat) (a_parted : Nat) (a_bitsWere : Nat) (a_stood : Nat) (a_chosen : Nat) (a_bestChosen : Nat) (a_often : Nat) (a_sorted : Nat) (a_risen : Nat) (a_risenWays : Nat) (i_thrown : Int32) (i_told : Int32) (i_taped : Int32) (i_at : Int32) (i_to : Int32) (i_readMany : Int32) (i_size : Int32) (f : Nat → Int32) (g : Nat → Int32) : ctV l yX9_triesBits wsX9_triesBits ({ frames := 4, cells := 0, slots := 0, locals := 240 } : Room) D (tyIJ cI cJ) [.ref m0, .int 4, .int 240, .int 0] [(m0, .inr (9, [.int i_thrown, .int i_told, .ref a_row, .ref a_tape, .int i_taped, .int i_at, .int i_to, .int 0, .ref a_number, .ref a_read, .int i_readMany, .ref a_readBits, .ref a_stands, .ref a_parted, .ref a_bitsWere, .ref a_stood, .ref a_chosen, .ref a_bestChosen, .int (-1), .ref a_often, .ref a_sorted, .int i_size, .ref a_risen, .ref a_risenWays])), (a_chosen, .inl (cI, 8, .inl f)), (a_bestChosen, .inl (cI, 8, .inl g))] (fun (u : va_W) => ∃ (f' : Nat → Int32) (g' : Nat → Int32), u = [(m0, .inr (9, [.int i_thrown, .int i_told, .ref a_row, .ref a_tape, .int i_taped, .int i_at, .int i_to, .int 0, .ref a_number, .ref a_read, .int i_readMany, .ref a_readBits, .ref a_stands, .ref a_parted, .ref a_bitsWere, .ref a_stood, .ref a_chosen, .ref a_bestChosen, .int 0, .ref a_often, .ref a_sorted, .int i_size, .ref a_risen, .ref a_risenWays])), (a_chosen, .inl (cI, 8, .inl f')), (a_bestChosen, .inl (cI, 8, .inl g'))]) := by
  refine ctV.of (cc := cX9_triesBits) (maxL := 7) (ret := none) (by decide) rfl (Nat.le_of_ble_eq_true rfl) ?_
  intro p e s m below meth c ls A hx hb hr hts hown hml hlocks hname hA hK hN hP hD hS hl
  have hl : lv_has ls 7 [(0, .ref m0), (1, .int 4), (2, .int 240), (3, .int 0)] := hl
  have hown : s.vm.findClass RX9 = some m.cls := hown
  have hi9 : ∀ w ∈ u_ws RX9 TX9 24, w ∈ wsX9_triesBits := by decide +kernel
  have fl162 := hts (.fieldLink RX9 162 "PlaneColumnModel" "fewest" "I") (by decide +kernel)
  have fl70 := hts (.fieldLink RX9 70 "PlaneColumnModel" "chosen" "[I") (by decide +kernel)
  have fl88 := hts (.fieldLink RX9 88 "PlaneColumnModel" "many" "I") (by decide +kernel)
  refine lv_aload_n hx hb dX9_triesBits_0 rfl (lv_at hl 0 rfl) ?_
  refine va_get (ci := 9) (v := .int (-1)) (C := RX9) (T := TX9) (N := 24) hx hb hts hi9 hown hK hP 0 rfl rfl 18 (by decide) fl162 (fun _ h9 => h9) rfl dX9_triesBits_1 ?_
  refine lv_if_lt (tgt := 16) hx hb dX9_triesBits_4 (by decide) (fun c4 => ?_) (fun c4 => ?_)
  ·
    refine lv_iload_n hx hb dX9_triesBits_16 rfl (lv_at hl 1 rfl) ?_
    refine lv_bipush (v := 8) hx hb dX9_triesBits_17 (by decide +kernel) ?_
    refine lv_icmp_ne (tgt := 58) hx hb dX9_triesBits_19 (by decide) (fun c19 => ?_) (fun c19 => ?_)
    ·
      refine lv_iconst (v := 0) hx hb dX9_triesBits_58 (by decide +kernel) ?_
      refine lv_istore (lv' := [(4, .int 0), (0, .ref m0), (1, .int 4), (2, .int 240), (3, .int 0)]) hx hb dX9_triesBits_59 hl (by decide) rfl (fun ls hl => ?_)
      refine lv_iload hx hb dX9_triesBits_61 (lv_at hl 0 rfl) ?_
      refine lv_aload_n hx hb dX9_triesBits_63 rfl (lv_at hl 1 rfl) ?_
      refine va_get (ci := 9) (v := .int 0) (C := RX9) (T := TX9) (N := 24) hx hb hts hi9 hown hK hP 0 rfl rfl 7 (by decide) fl88 (fun _ h9 => h9) rfl dX9_triesBits_64 ?_
      refine lv_icmp_ge (tgt := 95) hx hb dX9_triesBits_67 (by decide) (fun c67 => ?_) (fun c67 => ?_)
      ·
        refine lv_bipush (v := 7) hx hb dX9_triesBits_95 (by decide +kernel) ?_
        refine lv_istore (lv' := [(4, .int 7), (0, .ref m0), (1, .int 4), (2, .int 240), (3, .int 0)]) hx hb dX9_triesBits_97 hl (by decide) rfl (fun ls hl => ?_)
        refine lv_iload hx hb dX9_triesBits_99 (lv_at hl 0 rfl) ?_
        refine lv_if_lt (tgt := 195) hx hb dX9_triesBits_101 (by decide) (fun c101 => ?_) (fun c101 => ?_)
        ·
          exact absurd c101 (by decide +kernel)
        ·
          refine lv_iload_n hx hb dX9_triesBits_104 rfl (lv_at hl 3 rfl) ?_
          refine lv_iload hx hb dX9_triesBits_105 (lv_at hl 0 rfl) ?_
          refine lv_ishr hx hb dX9_triesBits_107 ?_
          refine my_eqi (y := 1) (by decide +kernel) ?_
          refine lv_iconst (v := 1) hx hb dX9_triesBits_108 (by decide +kernel) ?_
          refine lv_iand hx hb dX9_triesBits_109 ?_
          refine my_eqi (y := 1) (by decide +kernel) ?_
          refine lv_if_ne (tgt := 189) hx hb dX9_triesBits_110 (by decide) (fun c110 => ?_) (fun c110 => ?_)
          ·
            refine lv_iinc (v := 6) (lv' := [(4, .int 6), (0, .ref m0), (1, .int 4), (2, .int 240), (3, .int 0)]) hx hb dX9_triesBits_189 hl (k := 0) rfl (by decide +kernel) (by decide) rfl (fun ls hl => ?_)
            refine lv_goto (tgt := 99) hx hb dX9_triesBits_192 (by decide) ?_
            refine lv_iload hx hb dX9_triesBits_99 (lv_at hl 0 rfl) ?_
            refine lv_if_lt (tgt := 195) hx hb dX9_triesBits_101 (by decide) (fun c101 => ?_) (fun c101 => ?_)
            ·
              exact absurd c101 (by decide +kernel)
            ·
              refine lv_iload_n hx hb dX9_triesBits_104 rfl (lv_at hl 3 rfl) ?_
              refine lv_iload hx hb dX9_triesBits_105 (lv_at hl 0 rfl) ?_
              refine lv_ishr hx hb dX9_triesBits_107 ?_
              refine my_eqi (y := 3) (by decide +kernel) ?_
              refine lv_iconst (v := 1) hx hb dX9_triesBits_108 (by decide +kernel) ?_
              refine lv_iand hx hb dX9_triesBits_109 ?_
              refine my_eqi (y := 1) (by decide +kernel) ?_
              refine lv_if_ne (tgt := 189) hx hb dX9_triesBits_110 (by decide) (fun c110 => ?_) (fun c110 => ?_)
              ·
                refine lv_iinc (v := 5) (lv' := [(4, .int 5), (0, .ref m0), (1, .int 4), (2, .int 240), (3, .int 0)]) hx hb dX9_triesBits_189 hl (k := 0) rfl (by decide +kernel) (by decide) rfl (fun ls hl => ?_)
                refine lv_goto (tgt := 99) hx hb dX9_triesBits_192 (by decide) ?_
                refine lv_iload hx hb dX9_triesBits_99 (lv_at hl 0 rfl) ?_
                refine lv_if_lt (tgt := 195) hx hb dX9_triesBits_101 (by decide) (fun c101 => ?_) (fun c101 => ?_)
                ·
                  exact absurd c101 (by decide +kernel)
                ·
                  refine lv_iload_n hx hb dX9_triesBits_104 rfl (lv_at hl 3 rfl) ?_
                  refine lv_iload hx hb dX9_triesBits_105 (lv_at hl 0 rfl) ?_
                  refine lv_ishr hx hb dX9_triesBits_107 ?_
                  refine my_eqi (y := 7) (by decide +kernel) ?_
                  refine lv_iconst (v := 1) hx hb dX9_triesBits_108 (by decide +kernel) ?_
                  refine lv_iand hx hb dX9_triesBits_109 ?_
                  refine my_eqi (y := 1) (by decide +kernel) ?_
                  refine lv_if_ne (tgt := 189) hx hb dX9_triesBits_110 (by decide) (fun c110 => ?_) (fun c110 => ?_)
                  ·
                    refine lv_iinc (v := 4) (lv' := [(4, .int 4), (0, .ref m0), (1, .int 4), (2, .int 240), (3, .int 0)]) hx hb dX9_triesBits_189 hl (k := 0) rfl (by decide +kernel) (by decide) rfl (fun ls hl => ?_)
                    refine lv_goto (tgt := 99) hx hb dX9_triesBits_192 (by decide) ?_
                    refine lv_iload hx hb dX9_triesBits_99 (lv_at hl 0 rfl) ?_
                    refine lv_if_lt (tgt := 195) hx hb dX9_triesBits_101 (by decide) (fun c101 => ?_) (fun c101 => ?_)
                    ·
                      exact absurd c101 (by decide +kernel)
                    ·
                      refine lv_iload_n hx hb dX9_triesBits_104 rfl (lv_at hl 3 rfl) ?_
                      refine lv_iload hx hb dX9_triesBits_105 (lv_at hl 0 rfl) ?_
                      refine lv_ishr hx hb dX9_triesBits_107 ?_
                      refine my_eqi (y := 15) (by decide +kernel) ?_
                      refine lv_iconst (v := 1) hx hb dX9_triesBits_108 (by decide +kernel) ?_
                      refine lv_iand hx hb dX9_triesBits_109 ?_
                      refine my_eqi (y := 1) (by decide +kernel) ?_
                      refine lv_if_ne (tgt := 189) hx hb dX9_triesBits_110 (by decide) (fun c110 => ?_) (fun c110 => ?_)
                      ·
                        refine lv_iinc (v := 3) (lv' := [(4, .int 3), (0, .ref m0), (1, .int 4), (2, .int 240), (3, .int 0)]) hx hb dX9_triesBits_189 hl (k := 0) rfl (by decide +kernel) (by decide) rfl (fun ls hl => ?_)
                        refine lv_goto (tgt := 99) hx hb dX9_triesBits_192 (by decide) ?_
                        refine lv_iload hx hb dX9_triesBits_99 (lv_at hl 0 rfl) ?_
                        refine lv_if_lt (tgt := 195) hx hb dX9_triesBits_101 (by decide) (fun c101 => ?_) (fun c101 => ?_)
                        ·
                          exact absurd c101 (by decide +kernel)
                        ·
                          refine lv_iload_n hx hb dX9_triesBits_104 rfl (lv_at hl 3 rfl) ?_
                          refine lv_iload hx hb dX9_triesBits_105 (lv_at hl 0 rfl) ?_
                          refine lv_ishr hx hb dX9_triesBits_107 ?_
                          refine my_eqi (y := 30) (by decide +kernel) ?_
                          refine lv_iconst (v := 1) hx hb dX9_triesBits_108 (by decide +kernel) ?_
                          refine lv_iand hx hb dX9_triesBits_109 ?_
                          refine my_eqi (y := 0) (by decide +kernel) ?_
                          refine lv_if_ne (tgt := 189) hx hb dX9_triesBits_110 (by decide) (fun c110 => ?_) (fun c110 => ?_)
                          ·
                            exact absurd c110 (by decide +kernel)
                          ·
                            refine lv_aload_n hx hb dX9_triesBits_113 rfl (lv_at hl 1 rfl) ?_
                            refine va_get (ci := 9) (v := .ref a_chosen) (C := RX9) (T := TX9) (N := 24) hx hb hts hi9 hown hK hP 0 rfl rfl 16 (by decide) fl70 (fun _ h9 => h9) rfl dX9_triesBits_114 ?_
                            refine lv_iload_n hx hb dX9_triesBits_117 rfl (lv_at hl 2 rfl) ?_
                            refine lv_iload hx hb dX9_triesBits_118 (lv_at hl 0 rfl) ?_
                            refine va_iast hx hb hK hP hD hS 1 0 rfl rfl (vp_in_nI (n := 4) (by omega) (by omega)) dX9_triesBits_120 (fun H locs hP hD hS => ?_)
                            have eU : upd f (4 : Int32).toNatClampNeg 3 = upd f 4 3 := by rw [show (4 : Int32).toNatClampNeg = 4 from by decide +kernel]
                            rw [eU] at hP hD
                            have hP : va_P D vwCl [(m0, .inr (9, [.int i_thrown, .int i_told, .ref a_row, .ref a_tape, .int i_taped, .int i_at, .int i_to, .int 0, .ref a_number, .ref a_read, .int i_readMany, .ref a_readBits, .ref a_stands, .ref a_parted, .ref a_bitsWere, .ref a_stood, .ref a_chosen, .ref a_bestChosen, .int (-1), .ref a_often, .ref a_sorted, .int i_size, .ref a_risen, .ref a_risenWays])), (a_chosen, .inl (cI, 8, .inl (upd f 4 3))), (a_bestChosen, .inl (cI, 8, .inl g))] H := hP
                            have hD : va_D A [(m0, .inr (9, [.int i_thrown, .int i_told, .ref a_row, .ref a_tape, .int i_taped, .int i_at, .int i_to, .int 0, .ref a_number, .ref a_read, .int i_readMany, .ref a_readBits, .ref a_stands, .ref a_parted, .ref a_bitsWere, .ref a_stood, .ref a_chosen, .ref a_bestChosen, .int (-1), .ref a_often, .ref a_sorted, .int i_size, .ref a_risen, .ref a_risenWays])), (a_chosen, .inl (cI, 8, .inl (upd f 4 3))), (a_bestChosen, .inl (cI, 8, .inl g))] := hD
                            refine lv_aload_n hx hb dX9_triesBits_121 rfl (lv_at hl 1 rfl) ?_
                            refine lv_iload hx hb dX9_triesBits_122 (lv_at hl 0 rfl) ?_
                            refine my_gpI (my_pV (As := [.int 3]) (rest := []) (ci := 9) ⟨hx, hb, hml, hown, hts⟩ (cwV 1 hts gX9_triesBits_X9_runsOf rfl rfl rfl (by decide +kernel) ⟨Nat.le_of_ble_eq_true rfl, Nat.le_of_ble_eq_true rfl⟩) hN hK hP [0] rfl 0 rfl rfl rfl rfl hl.1 rfl (Nat.le_of_ble_eq_true rfl) dX9_triesBits_124 ⟨Nat.le_of_ble_eq_true rfl, Nat.le_of_ble_eq_true rfl⟩  (k0_X9_runsOf l D cI cJ m0 a_row a_tape a_number a_read a_readBits a_stands a_parted a_bitsWere a_stood a_chosen a_bestChosen a_often a_sorted a_risen a_risenWays i_thrown i_told i_taped i_at i_to i_readMany (-1 : Int32) i_size (3 : Int32))) (fun r hp => ?_)
                            obtain rfl := hp
                            refine lv_istore (lv' := [(5, .int 0), (4, .int 3), (0, .ref m0), (1, .int 4), (2, .int 240), (3, .int 0)]) hx hb dX9_triesBits_127 hl (by decide) rfl (fun ls hl => ?_)
                            refine lv_aload_n hx hb dX9_triesBits_129 rfl (lv_at hl 2 rfl) ?_
                            refine lv_iload hx hb dX9_triesBits_130 (lv_at hl 1 rfl) ?_
                            refine my_goV (wr := [(a_chosen, .inl (cI, 8, .inl (upd f 4 3))), (a_bestChosen, .inl (cI, 8, .inl g))]) hP hD hS hA [0] [1, 2] rfl rfl (by decide) (by decide) (my_cV (As := [.int 3]) (rest := []) (ci := 9) (wc := [(m0, .inr (9, [.int i_thrown, .int i_told, .ref a_row, .ref a_tape, .int i_taped, .int i_at, .int i_to, .int 0, .ref a_number, .ref a_read, .int i_readMany, .ref a_readBits, .ref a_stands, .ref a_parted, .ref a_bitsWere, .ref a_stood, .ref a_chosen, .ref a_bestChosen, .int (-1), .ref a_often, .ref a_sorted, .int i_size, .ref a_risen, .ref a_risenWays]))]) ⟨hx, hb, hml, hown, hts⟩ (cwV 1 hts gX9_triesBits_X9_parts rfl rfl rfl (by decide +kernel) ⟨Nat.le_of_ble_eq_true rfl, Nat.le_of_ble_eq_true rfl⟩) hN hK hP hD [0] rfl (by decide) rfl 0 rfl rfl rfl rfl hl.1 rfl (Nat.le_of_ble_eq_true rfl) dX9_triesBits_132 ⟨Nat.le_of_ble_eq_true rfl, Nat.le_of_ble_eq_true rfl⟩  ((k0_X9_parts l D cI cJ m0 a_row a_tape a_number a_read a_readBits a_stands a_parted a_bitsWere a_stood a_chosen a_bestChosen a_often a_sorted a_risen a_risenWays i_thrown i_told i_taped i_at i_to i_readMany (-1 : Int32) i_size (3 : Int32)) _)) (fun u H locs hp hP hD hS => ?_)
                            obtain rfl := hp
                            have hP : va_P D vwCl [(a_chosen, .inl (cI, 8, .inl (upd f 4 3))), (a_bestChosen, .inl (cI, 8, .inl g)), (m0, .inr (9, [.int i_thrown, .int i_told, .ref a_row, .ref a_tape, .int i_taped, .int i_at, .int i_to, .int 0, .ref a_number, .ref a_read, .int i_readMany, .ref a_readBits, .ref a_stands, .ref a_parted, .ref a_bitsWere, .ref a_stood, .ref a_chosen, .ref a_bestChosen, .int (-1), .ref a_often, .ref a_sorted, .int i_size, .ref a_risen, .ref a_risenWays]))] H := hP
                            have hD : va_D A [(a_chosen, .inl (cI, 8, .inl (upd f 4 3))), (a_bestChosen, .inl (cI, 8, .inl g)), (m0, .inr (9, [.int i_thrown, .int i_told, .ref a_row, .ref a_tape, .int i_taped, .int i_at, .int i_to, .int 0, .ref a_number, .ref a_read, .int i_readMany, .ref a_readBits, .ref a_stands, .ref a_parted, .ref a_bitsWere, .ref a_stood, .ref a_chosen, .ref a_bestChosen, .int (-1), .ref a_often, .ref a_sorted, .int i_size, .ref a_risen, .ref a_risenWays]))] := hD
                            refine lv_aload_n hx hb dX9_triesBits_135 rfl (lv_at hl 2 rfl) ?_
                            refine lv_iload_n hx hb dX9_triesBits_136 rfl (lv_at hl 3 rfl) ?_
                            refine lv_iconst (v := 1) hx hb dX9_triesBits_137 (by decide +kernel) ?_
                            refine lv_iadd hx hb dX9_triesBits_138 ?_
                            refine my_eqi (y := 5) (by decide +kernel) ?_
                            refine lv_iload_n hx hb dX9_triesBits_139 rfl (lv_at hl 4 rfl) ?_
                            refine lv_iconst (v := 1) hx hb dX9_triesBits_140 (by decide +kernel) ?_
                            refine lv_iload hx hb dX9_triesBits_141 (lv_at hl 1 rfl) ?_
                            refine lv_ishl hx hb dX9_triesBits_143 ?_
                            refine my_eqi (y := 8) (by decide +kernel) ?_
                            refine lv_ior hx hb dX9_triesBits_144 ?_
                            refine my_eqi (y := 248) (by decide +kernel) ?_
                            refine lv_iload_n hx hb dX9_triesBits_145 rfl (lv_at hl 5 rfl) ?_
                            refine lv_iload hx hb dX9_triesBits_146 (lv_at hl 0 rfl) ?_
                            refine lv_iadd hx hb dX9_triesBits_148 ?_
                            refine my_eqi (y := 0) (by decide +kernel) ?_
                            refine my_goV (wr := []) hP hD hS hA [2, 0, 1] [] rfl rfl (by decide) (by decide) (my_cV (As := [.int 5, .int 248, .int 0]) (rest := []) (ci := 9) (wc := [(m0, .inr (9, [.int i_thrown, .int i_told, .ref a_row, .ref a_tape, .int i_taped, .int i_at, .int i_to, .int 0, .ref a_number, .ref a_read, .int i_readMany, .ref a_readBits, .ref a_stands, .ref a_parted, .ref a_bitsWere, .ref a_stood, .ref a_chosen, .ref a_bestChosen, .int (-1), .ref a_often, .ref a_sorted, .int i_size, .ref a_risen, .ref a_risenWays])), (a_chosen, .inl (cI, 8, .inl (upd f 4 3))), (a_bestChosen, .inl (cI, 8, .inl g))]) ⟨hx, hb, hml, hown, hts⟩ (cwV 3 hts gX9_triesBits_X9_triesBits rfl rfl rfl (by decide +kernel) ⟨Nat.le_of_ble_eq_true rfl, Nat.le_of_ble_eq_true rfl⟩) hN hK hP hD [2, 0, 1] rfl (by decide) rfl 2 rfl rfl rfl rfl hl.1 rfl (Nat.le_of_ble_eq_true rfl) dX9_triesBits_149 ⟨Nat.le_of_ble_eq_true rfl, Nat.le_of_ble_eq_true rfl⟩  ((k0_X9_triesBits_5 l D cI cJ m0 a_row a_tape a_number a_read a_readBits a_stands a_parted a_bitsWere a_stood a_chosen a_bestChosen a_often a_sorted a_risen a_risenWays i_thrown i_told i_taped i_at i_to i_readMany i_size (upd f 4 3) g) _)) (fun u H locs hp hP hD hS => ?_)
                            obtain ⟨f_1, g_2, rfl⟩ := hp
                            have hP : va_P D vwCl [(m0, .inr (9, [.int i_thrown, .int i_told, .ref a_row, .ref a_tape, .int i_taped, .int i_at, .int i_to, .int 0, .ref a_number, .ref a_read, .int i_readMany, .ref a_readBits, .ref a_stands, .ref a_parted, .ref a_bitsWere, .ref a_stood, .ref a_chosen, .ref a_bestChosen, .int 0, .ref a_often, .ref a_sorted, .int i_size, .ref a_risen, .ref a_risenWays])), (a_chosen, .inl (cI, 8, .inl f_1)), (a_bestChosen, .inl (cI, 8, .inl g_2))] H := hP
                            have hD : va_D A [(m0, .inr (9, [.int i_thrown, .int i_told, .ref a_row, .ref a_tape, .int i_taped, .int i_at, .int i_to, .int 0, .ref a_number, .ref a_read, .int i_readMany, .ref a_readBits, .ref a_stands, .ref a_parted, .ref a_bitsWere, .ref a_stood, .ref a_chosen, .ref a_bestChosen, .int 0, .ref a_often, .ref a_sorted, .int i_size, .ref a_risen, .ref a_risenWays])), (a_chosen, .inl (cI, 8, .inl f_1)), (a_bestChosen, .inl (cI, 8, .inl g_2))] := hD
                            refine lv_iconst (v := 0) hx hb dX9_triesBits_152 (by decide +kernel) ?_
                            refine lv_istore (lv' := [(6, .int 0), (5, .int 0), (4, .int 3), (0, .ref m0), (1, .int 4), (2, .int 240), (3, .int 0)]) hx hb dX9_triesBits_153 hl (by decide) rfl (fun ls hl => ?_)
                            refine lv_iload hx hb dX9_triesBits_155 (lv_at hl 0 rfl) ?_
                            refine lv_aload_n hx hb dX9_triesBits_157 rfl (lv_at hl 3 rfl) ?_
                            refine va_get (ci := 9) (v := .int 0) (C := RX9) (T := TX9) (N := 24) hx hb hts hi9 hown hK hP 0 rfl rfl 7 (by decide) fl88 (fun _ h9 => h9) rfl dX9_triesBits_158 ?_
                            refine lv_icmp_ge (tgt := 189) hx hb dX9_triesBits_161 (by decide) (fun c161 => ?_) (fun c161 => ?_)
                            ·
                              refine lv_iinc (v := 2) (lv' := [(4, .int 2), (6, .int 0), (5, .int 0), (0, .ref m0), (1, .int 4), (2, .int 240), (3, .int 0)]) hx hb dX9_triesBits_189 hl (k := 2) rfl (by decide +kernel) (by decide) rfl (fun ls hl => ?_)
                              refine lv_goto (tgt := 99) hx hb dX9_triesBits_192 (by decide) ?_
                              refine lv_iload hx hb dX9_triesBits_99 (lv_at hl 0 rfl) ?_
                              refine lv_if_lt (tgt := 195) hx hb dX9_triesBits_101 (by decide) (fun c101 => ?_) (fun c101 => ?_)
                              ·
                                exact absurd c101 (by decide +kernel)
                              ·
                                refine lv_iload_n hx hb dX9_triesBits_104 rfl (lv_at hl 5 rfl) ?_
                                refine lv_iload hx hb dX9_triesBits_105 (lv_at hl 0 rfl) ?_
                                refine lv_ishr hx hb dX9_triesBits_107 ?_
                                refine my_eqi (y := 60) (by decide +kernel) ?_
                                refine lv_iconst (v := 1) hx hb dX9_triesBits_108 (by decide +kernel) ?_
                                refine lv_iand hx hb dX9_triesBits_109 ?_
                                refine my_eqi (y := 0) (by decide +kernel) ?_
                                refine lv_if_ne (tgt := 189) hx hb dX9_triesBits_110 (by decide) (fun c110 => ?_) (fun c110 => ?_)
                                ·
                                  exact absurd c110 (by decide +kernel)
                                ·
                                  refine lv_aload_n hx hb dX9_triesBits_113 rfl (lv_at hl 3 rfl) ?_
                                  refine va_get (ci := 9) (v := .ref a_chosen) (C := RX9) (T := TX9) (N := 24) hx hb hts hi9 hown hK hP 0 rfl rfl 16 (by decide) fl70 (fun _ h9 => h9) rfl dX9_triesBits_114 ?_
                                  refine lv_iload_n hx hb dX9_triesBits_117 rfl (lv_at hl 4 rfl) ?_
                                  refine lv_iload hx hb dX9_triesBits_118 (lv_at hl 0 rfl) ?_
                                  refine va_iast hx hb hK hP hD hS 1 0 rfl rfl (vp_in_nI (n := 4) (by omega) (by omega)) dX9_triesBits_120 (fun H locs hP hD hS => ?_)
                                  have eU : upd f_1 (4 : Int32).toNatClampNeg 2 = upd f_1 4 2 := by rw [show (4 : Int32).toNatClampNeg = 4 from by decide +kernel]
                                  rw [eU] at hP hD
                                  have hP : va_P D vwCl [(m0, .inr (9, [.int i_thrown, .int i_told, .ref a_row, .ref a_tape, .int i_taped, .int i_at, .int i_to, .int 0, .ref a_number, .ref a_read, .int i_readMany, .ref a_readBits, .ref a_stands, .ref a_parted, .ref a_bitsWere, .ref a_stood, .ref a_chosen, .ref a_bestChosen, .int 0, .ref a_often, .ref a_sorted, .int i_size, .ref a_risen, .ref a_risenWays])), (a_chosen, .inl (cI, 8, .inl (upd f_1 4 2))), (a_bestChosen, .inl (cI, 8, .inl g_2))] H := hP
                                  have hD : va_D A [(m0, .inr (9, [.int i_thrown, .int i_told, .ref a_row, .ref a_tape, .int i_taped, .int i_at, .int i_to, .int 0, .ref a_number, .ref a_read, .int i_readMany, .ref a_readBits, .ref a_stands, .ref a_parted, .ref a_bitsWere, .ref a_stood, .ref a_chosen, .ref a_bestChosen, .int 0, .ref a_often, .ref a_sorted, .int i_size, .ref a_risen, .ref a_risenWays])), (a_chosen, .inl (cI, 8, .inl (upd f_1 4 2))), (a_bestChosen, .inl (cI, 8, .inl g_2))] := hD
                                  refine lv_aload_n hx hb dX9_triesBits_121 rfl (lv_at hl 3 rfl) ?_
                                  refine lv_iload hx hb dX9_triesBits_122 (lv_at hl 0 rfl) ?_
                                  refine my_gpI (my_pV (As := [.int 2]) (rest := []) (ci := 9) ⟨hx, hb, hml, hown, hts⟩ (cwV 1 hts gX9_triesBits_X9_runsOf rfl rfl rfl (by decide +kernel) ⟨Nat.le_of_ble_eq_true rfl, Nat.le_of_ble_eq_true rfl⟩) hN hK hP [0] rfl 0 rfl rfl rfl rfl hl.1 rfl (Nat.le_of_ble_eq_true rfl) dX9_triesBits_124 ⟨Nat.le_of_ble_eq_true rfl, Nat.le_of_ble_eq_true rfl⟩  (k0_X9_runsOf l D cI cJ m0 a_row a_tape a_number a_read a_readBits a_stands a_parted a_bitsWere a_stood a_chosen a_bestChosen a_often a_sorted a_risen a_risenWays i_thrown i_told i_taped i_at i_to i_readMany (0 : Int32) i_size (2 : Int32))) (fun r hp => ?_)
                                  obtain rfl := hp
                                  refine lv_istore (lv' := [(5, .int 0), (4, .int 2), (6, .int 0), (0, .ref m0), (1, .int 4), (2, .int 240), (3, .int 0)]) hx hb dX9_triesBits_127 hl (by decide) rfl (fun ls hl => ?_)
                                  refine lv_aload_n hx hb dX9_triesBits_129 rfl (lv_at hl 3 rfl) ?_
                                  refine lv_iload hx hb dX9_triesBits_130 (lv_at hl 1 rfl) ?_
                                  refine my_goV (wr := [(a_chosen, .inl (cI, 8, .inl (upd f_1 4 2))), (a_bestChosen, .inl (cI, 8, .inl g_2))]) hP hD hS hA [0] [1, 2] rfl rfl (by decide) (by decide) (my_cV (As := [.int 2]) (rest := []) (ci := 9) (wc := [(m0, .inr (9, [.int i_thrown, .int i_told, .ref a_row, .ref a_tape, .int i_taped, .int i_at, .int i_to, .int 0, .ref a_number, .ref a_read, .int i_readMany, .ref a_readBits, .ref a_stands, .ref a_parted, .ref a_bitsWere, .ref a_stood, .ref a_chosen, .ref a_bestChosen, .int 0, .ref a_often, .ref a_sorted, .int i_size, .ref a_risen, .ref a_risenWays]))]) ⟨hx, hb, hml, hown, hts⟩ (cwV 1 hts gX9_triesBits_X9_parts rfl rfl rfl (by decide +kernel) ⟨Nat.le_of_ble_eq_true rfl, Nat.le_of_ble_eq_true rfl⟩) hN hK hP hD [0] rfl (by decide) rfl 0 rfl rfl rfl rfl hl.1 rfl (Nat.le_of_ble_eq_true rfl) dX9_triesBits_132 ⟨Nat.le_of_ble_eq_true rfl, Nat.le_of_ble_eq_true rfl⟩  ((k0_X9_parts l D cI cJ m0 a_row a_tape a_number a_read a_readBits a_stands a_parted a_bitsWere a_stood a_chosen a_bestChosen a_often a_sorted a_risen a_risenWays i_thrown i_told i_taped i_at i_to i_readMany (0 : Int32) i_size (2 : Int32)) _)) (fun u H locs hp hP hD hS => ?_)
                                  obtain rfl := hp
                                  have hP : va_P D vwCl [(a_chosen, .inl (cI, 8, .inl (upd f_1 4 2))), (a_bestChosen, .inl (cI, 8, .inl g_2)), (m0, .inr (9, [.int i_thrown, .int i_told, .ref a_row, .ref a_tape, .int i_taped, .int i_at, .int i_to, .int 0, .ref a_number, .ref a_read, .int i_readMany, .ref a_readBits, .ref a_stands, .ref a_parted, .ref a_bitsWere, .ref a_stood, .ref a_chosen, .ref a_bestChosen, .int 0, .ref a_often, .ref a_sorted, .int i_size, .ref a_risen, .ref a_risenWays]))] H := hP
                                  have hD : va_D A [(a_chosen, .inl (cI, 8, .inl (upd f_1 4 2))), (a_bestChosen, .inl (cI, 8, .inl g_2)), (m0, .inr (9, [.int i_thrown, .int i_told, .ref a_row, .ref a_tape, .int i_taped, .int i_at, .int i_to, .int 0, .ref a_number, .ref a_read, .int i_readMany, .ref a_readBits, .ref a_stands, .ref a_parted, .ref a_bitsWere, .ref a_stood, .ref a_chosen, .ref a_bestChosen, .int 0, .ref a_often, .ref a_sorted, .int i_size, .ref a_risen, .ref a_risenWays]))] := hD
                                  refine lv_aload_n hx hb dX9_triesBits_135 rfl (lv_at hl 3 rfl) ?_
                                  refine lv_iload_n hx hb dX9_triesBits_136 rfl (lv_at hl 4 rfl) ?_
                                  refine lv_iconst (v := 1) hx hb dX9_triesBits_137 (by decide +kernel) ?_
                                  refine lv_iadd hx hb dX9_triesBits_138 ?_
                                  refine my_eqi (y := 5) (by decide +kernel) ?_
                                  refine lv_iload_n hx hb dX9_triesBits_139 rfl (lv_at hl 5 rfl) ?_
                                  refine lv_iconst (v := 1) hx hb dX9_triesBits_140 (by decide +kernel) ?_
                                  refine lv_iload hx hb dX9_triesBits_141 (lv_at hl 1 rfl) ?_
                                  refine lv_ishl hx hb dX9_triesBits_143 ?_
                                  refine my_eqi (y := 4) (by decide +kernel) ?_
                                  refine lv_ior hx hb dX9_triesBits_144 ?_
                                  refine my_eqi (y := 244) (by decide +kernel) ?_
                                  refine lv_iload_n hx hb dX9_triesBits_145 rfl (lv_at hl 6 rfl) ?_
                                  refine lv_iload hx hb dX9_triesBits_146 (lv_at hl 0 rfl) ?_
                                  refine lv_iadd hx hb dX9_triesBits_148 ?_
                                  refine my_eqi (y := 0) (by decide +kernel) ?_
                                  refine my_goV (wr := [(a_chosen, .inl (cI, 8, .inl (upd f_1 4 2))), (a_bestChosen, .inl (cI, 8, .inl g_2))]) hP hD hS hA [2] [0, 1] rfl rfl (by decide) (by decide) (my_cV (As := [.int 5, .int 244, .int 0]) (rest := []) (ci := 9) (wc := [(m0, .inr (9, [.int i_thrown, .int i_told, .ref a_row, .ref a_tape, .int i_taped, .int i_at, .int i_to, .int 0, .ref a_number, .ref a_read, .int i_readMany, .ref a_readBits, .ref a_stands, .ref a_parted, .ref a_bitsWere, .ref a_stood, .ref a_chosen, .ref a_bestChosen, .int 0, .ref a_often, .ref a_sorted, .int i_size, .ref a_risen, .ref a_risenWays]))]) ⟨hx, hb, hml, hown, hts⟩ (cwV 3 hts gX9_triesBits_X9_triesBits rfl rfl rfl (by decide +kernel) ⟨Nat.le_of_ble_eq_true rfl, Nat.le_of_ble_eq_true rfl⟩) hN hK hP hD [2] rfl (by decide) rfl 2 rfl rfl rfl rfl hl.1 rfl (Nat.le_of_ble_eq_true rfl) dX9_triesBits_149 ⟨Nat.le_of_ble_eq_true rfl, Nat.le_of_ble_eq_true rfl⟩  ((kq_X9_triesBits l D cI cJ m0 a_row a_tape a_number a_read a_readBits a_stands a_parted a_bitsWere a_stood a_chosen a_bestChosen a_often a_sorted a_risen a_risenWays i_thrown i_told i_taped i_at i_to i_readMany i_size (5 : Int32) (244 : Int32)) _)) (fun u H locs hp hP hD hS => ?_)
                                  obtain rfl := hp
                                  have hP : va_P D vwCl [(a_chosen, .inl (cI, 8, .inl (upd f_1 4 2))), (a_bestChosen, .inl (cI, 8, .inl g_2)), (m0, .inr (9, [.int i_thrown, .int i_told, .ref a_row, .ref a_tape, .int i_taped, .int i_at, .int i_to, .int 0, .ref a_number, .ref a_read, .int i_readMany, .ref a_readBits, .ref a_stands, .ref a_parted, .ref a_bitsWere, .ref a_stood, .ref a_chosen, .ref a_bestChosen, .int 0, .ref a_often, .ref a_sorted, .int i_size, .ref a_risen, .ref a_risenWays]))] H := hP
                                  have hD : va_D A [(a_chosen, .inl (cI, 8, .inl (upd f_1 4 2))), (a_bestChosen, .inl (cI, 8, .inl g_2)), (m0, .inr (9, [.int i_thrown, .int i_told, .ref a_row, .ref a_tape, .int i_taped, .int i_at, .int i_to, .int 0, .ref a_number, .ref a_read, .int i_readMany, .ref a_readBits, .ref a_stands, .ref a_parted, .ref a_bitsWere, .ref a_stood, .ref a_chosen, .ref a_bestChosen, .int 0, .ref a_often, .ref a_sorted, .int i_size, .ref a_risen, .ref a_risenWays]))] := hD
                                  refine lv_iconst (v := 0) hx hb dX9_triesBits_152 (by decide +kernel) ?_
                                  refine lv_istore (lv' := [(6, .int 0), (5, .int 0), (4, .int 2), (0, .ref m0), (1, .int 4), (2, .int 240), (3, .int 0)]) hx hb dX9_triesBits_153 hl (by decide) rfl (fun ls hl => ?_)
                                  refine lv_iload hx hb dX9_triesBits_155 (lv_at hl 0 rfl) ?_
                                  refine lv_aload_n hx hb dX9_triesBits_157 rfl (lv_at hl 3 rfl) ?_
                                  refine va_get (ci := 9) (v := .int 0) (C := RX9) (T := TX9) (N := 24) hx hb hts hi9 hown hK hP 2 rfl rfl 7 (by decide) fl88 (fun _ h9 => h9) rfl dX9_triesBits_158 ?_
                                  refine lv_icmp_ge (tgt := 189) hx hb dX9_triesBits_161 (by decide) (fun c161 => ?_) (fun c161 => ?_)
                                  ·
                                    refine lv_iinc (v := 1) (lv' := [(4, .int 1), (6, .int 0), (5, .int 0), (0, .ref m0), (1, .int 4), (2, .int 240), (3, .int 0)]) hx hb dX9_triesBits_189 hl (k := 2) rfl (by decide +kernel) (by decide) rfl (fun ls hl => ?_)
                                    refine lv_goto (tgt := 99) hx hb dX9_triesBits_192 (by decide) ?_
                                    refine lv_iload hx hb dX9_triesBits_99 (lv_at hl 0 rfl) ?_
                                    refine lv_if_lt (tgt := 195) hx hb dX9_triesBits_101 (by decide) (fun c101 => ?_) (fun c101 => ?_)
                                    ·
                                      exact absurd c101 (by decide +kernel)
                                    ·
                                      refine lv_iload_n hx hb dX9_triesBits_104 rfl (lv_at hl 5 rfl) ?_
                                      refine lv_iload hx hb dX9_triesBits_105 (lv_at hl 0 rfl) ?_
                                      refine lv_ishr hx hb dX9_triesBits_107 ?_
                                      refine my_eqi (y := 120) (by decide +kernel) ?_
                                      refine lv_iconst (v := 1) hx hb dX9_triesBits_108 (by decide +kernel) ?_
                                      refine lv_iand hx hb dX9_triesBits_109 ?_
                                      refine my_eqi (y := 0) (by decide +kernel) ?_
                                      refine lv_if_ne (tgt := 189) hx hb dX9_triesBits_110 (by decide) (fun c110 => ?_) (fun c110 => ?_)
                                      ·
                                        exact absurd c110 (by decide +kernel)
                                      ·
                                        refine lv_aload_n hx hb dX9_triesBits_113 rfl (lv_at hl 3 rfl) ?_
                                        refine va_get (ci := 9) (v := .ref a_chosen) (C := RX9) (T := TX9) (N := 24) hx hb hts hi9 hown hK hP 2 rfl rfl 16 (by decide) fl70 (fun _ h9 => h9) rfl dX9_triesBits_114 ?_
                                        refine lv_iload_n hx hb dX9_triesBits_117 rfl (lv_at hl 4 rfl) ?_
                                        refine lv_iload hx hb dX9_triesBits_118 (lv_at hl 0 rfl) ?_
                                        refine va_iast hx hb hK hP hD hS 0 0 rfl rfl (vp_in_nI (n := 4) (by omega) (by omega)) dX9_triesBits_120 (fun H locs hP hD hS => ?_)
                                        have eU : upd (upd f_1 4 2) (4 : Int32).toNatClampNeg 1 = upd (upd f_1 4 2) 4 1 := by rw [show (4 : Int32).toNatClampNeg = 4 from by decide +kernel]
                                        rw [eU] at hP hD
                                        have hP : va_P D vwCl [(a_chosen, .inl (cI, 8, .inl (upd (upd f_1 4 2) 4 1))), (a_bestChosen, .inl (cI, 8, .inl g_2)), (m0, .inr (9, [.int i_thrown, .int i_told, .ref a_row, .ref a_tape, .int i_taped, .int i_at, .int i_to, .int 0, .ref a_number, .ref a_read, .int i_readMany, .ref a_readBits, .ref a_stands, .ref a_parted, .ref a_bitsWere, .ref a_stood, .ref a_chosen, .ref a_bestChosen, .int 0, .ref a_often, .ref a_sorted, .int i_size, .ref a_risen, .ref a_risenWays]))] H := hP
                                        have hD : va_D A [(a_chosen, .inl (cI, 8, .inl (upd (upd f_1 4 2) 4 1))), (a_bestChosen, .inl (cI, 8, .inl g_2)), (m0, .inr (9, [.int i_thrown, .int i_told, .ref a_row, .ref a_tape, .int i_taped, .int i_at, .int i_to, .int 0, .ref a_number, .ref a_read, .int i_readMany, .ref a_readBits, .ref a_stands, .ref a_parted, .ref a_bitsWere, .ref a_stood, .ref a_chosen, .ref a_bestChosen, .int 0, .ref a_often, .ref a_sorted, .int i_size, .ref a_risen, .ref a_risenWays]))] := hD
                                        refine lv_aload_n hx hb dX9_triesBits_121 rfl (lv_at hl 3 rfl) ?_
                                        refine lv_iload hx hb dX9_triesBits_122 (lv_at hl 0 rfl) ?_
                                        refine my_gpI (my_pV (As := [.int 1]) (rest := []) (ci := 9) ⟨hx, hb, hml, hown, hts⟩ (cwV 1 hts gX9_triesBits_X9_runsOf rfl rfl rfl (by decide +kernel) ⟨Nat.le_of_ble_eq_true rfl, Nat.le_of_ble_eq_true rfl⟩) hN hK hP [2] rfl 2 rfl rfl rfl rfl hl.1 rfl (Nat.le_of_ble_eq_true rfl) dX9_triesBits_124 ⟨Nat.le_of_ble_eq_true rfl, Nat.le_of_ble_eq_true rfl⟩  (k0_X9_runsOf l D cI cJ m0 a_row a_tape a_number a_read a_readBits a_stands a_parted a_bitsWere a_stood a_chosen a_bestChosen a_often a_sorted a_risen a_risenWays i_thrown i_told i_taped i_at i_to i_readMany (0 : Int32) i_size (1 : Int32))) (fun r hp => ?_)
                                        obtain rfl := hp
                                        refine lv_istore (lv' := [(5, .int 0), (4, .int 1), (6, .int 0), (0, .ref m0), (1, .int 4), (2, .int 240), (3, .int 0)]) hx hb dX9_triesBits_127 hl (by decide) rfl (fun ls hl => ?_)
                                        refine lv_aload_n hx hb dX9_triesBits_129 rfl (lv_at hl 3 rfl) ?_
                                        refine lv_iload hx hb dX9_triesBits_130 (lv_at hl 1 rfl) ?_
                                        refine my_goV (wr := [(a_chosen, .inl (cI, 8, .inl (upd (upd f_1 4 2) 4 1))), (a_bestChosen, .inl (cI, 8, .inl g_2))]) hP hD hS hA [2] [0, 1] rfl rfl (by decide) (by decide) (my_cV (As := [.int 1]) (rest := []) (ci := 9) (wc := [(m0, .inr (9, [.int i_thrown, .int i_told, .ref a_row, .ref a_tape, .int i_taped, .int i_at, .int i_to, .int 0, .ref a_number, .ref a_read, .int i_readMany, .ref a_readBits, .ref a_stands, .ref a_parted, .ref a_bitsWere, .ref a_stood, .ref a_chosen, .ref a_bestChosen, .int 0, .ref a_often, .ref a_sorted, .int i_size, .ref a_risen, .ref a_risenWays]))]) ⟨hx, hb, hml, hown, hts⟩ (cwV 1 hts gX9_triesBits_X9_parts rfl rfl rfl (by decide +kernel) ⟨Nat.le_of_ble_eq_true rfl, Nat.le_of_ble_eq_true rfl⟩) hN hK hP hD [2] rfl (by decide) rfl 2 rfl rfl rfl rfl hl.1 rfl (Nat.le_of_ble_eq_true rfl) dX9_triesBits_132 ⟨Nat.le_of_ble_eq_true rfl, Nat.le_of_ble_eq_true rfl⟩  ((k0_X9_parts l D cI cJ m0 a_row a_tape a_number a_read a_readBits a_stands a_parted a_bitsWere a_stood a_chosen a_bestChosen a_often a_sorted a_risen a_risenWays i_thrown i_told i_taped i_at i_to i_readMany (0 : Int32) i_size (1 : Int32)) _)) (fun u H locs hp hP hD hS => ?_)
                                        obtain rfl := hp
                                        have hP : va_P D vwCl [(a_chosen, .inl (cI, 8, .inl (upd (upd f_1 4 2) 4 1))), (a_bestChosen, .inl (cI, 8, .inl g_2)), (m0, .inr (9, [.int i_thrown, .int i_told, .ref a_row, .ref a_tape, .int i_taped, .int i_at, .int i_to, .int 0, .ref a_number, .ref a_read, .int i_readMany, .ref a_readBits, .ref a_stands, .ref a_parted, .ref a_bitsWere, .ref a_stood, .ref a_chosen, .ref a_bestChosen, .int 0, .ref a_often, .ref a_sorted, .int i_size, .ref a_risen, .ref a_risenWays]))] H := hP
                                        have hD : va_D A [(a_chosen, .inl (cI, 8, .inl (upd (upd f_1 4 2) 4 1))), (a_bestChosen, .inl (cI, 8, .inl g_2)), (m0, .inr (9, [.int i_thrown, .int i_told, .ref a_row, .ref a_tape, .int i_taped, .int i_at, .int i_to, .int 0, .ref a_number, .ref a_read, .int i_readMany, .ref a_readBits, .ref a_stands, .ref a_parted, .ref a_bitsWere, .ref a_stood, .ref a_chosen, .ref a_bestChosen, .int 0, .ref a_often, .ref a_sorted, .int i_size, .ref a_risen, .ref a_risenWays]))] := hD
                                        refine lv_aload_n hx hb dX9_triesBits_135 rfl (lv_at hl 3 rfl) ?_
                                        refine lv_iload_n hx hb dX9_triesBits_136 rfl (lv_at hl 4 rfl) ?_
                                        refine lv_iconst (v := 1) hx hb dX9_triesBits_137 (by decide +kernel) ?_
                                        refine lv_iadd hx hb dX9_triesBits_138 ?_
                                        refine my_eqi (y := 5) (by decide +kernel) ?_
                                        refine lv_iload_n hx hb dX9_triesBits_139 rfl (lv_at hl 5 rfl) ?_
                                        refine lv_iconst (v := 1) hx hb dX9_triesBits_140 (by decide +kernel) ?_
                                        refine lv_iload hx hb dX9_triesBits_141 (lv_at hl 1 rfl) ?_
                                        refine lv_ishl hx hb dX9_triesBits_143 ?_
                                        refine my_eqi (y := 2) (by decide +kernel) ?_
                                        refine lv_ior hx hb dX9_triesBits_144 ?_
                                        refine my_eqi (y := 242) (by decide +kernel) ?_
                                        refine lv_iload_n hx hb dX9_triesBits_145 rfl (lv_at hl 6 rfl) ?_
                                        refine lv_iload hx hb dX9_triesBits_146 (lv_at hl 0 rfl) ?_
                                        refine lv_iadd hx hb dX9_triesBits_148 ?_
                                        refine my_eqi (y := 0) (by decide +kernel) ?_
                                        refine my_goV (wr := [(a_chosen, .inl (cI, 8, .inl (upd (upd f_1 4 2) 4 1))), (a_bestChosen, .inl (cI, 8, .inl g_2))]) hP hD hS hA [2] [0, 1] rfl rfl (by decide) (by decide) (my_cV (As := [.int 5, .int 242, .int 0]) (rest := []) (ci := 9) (wc := [(m0, .inr (9, [.int i_thrown, .int i_told, .ref a_row, .ref a_tape, .int i_taped, .int i_at, .int i_to, .int 0, .ref a_number, .ref a_read, .int i_readMany, .ref a_readBits, .ref a_stands, .ref a_parted, .ref a_bitsWere, .ref a_stood, .ref a_chosen, .ref a_bestChosen, .int 0, .ref a_often, .ref a_sorted, .int i_size, .ref a_risen, .ref a_risenWays]))]) ⟨hx, hb, hml, hown, hts⟩ (cwV 3 hts gX9_triesBits_X9_triesBits rfl rfl rfl (by decide +kernel) ⟨Nat.le_of_ble_eq_true rfl, Nat.le_of_ble_eq_true rfl⟩) hN hK hP hD [2] rfl (by decide) rfl 2 rfl rfl rfl rfl hl.1 rfl (Nat.le_of_ble_eq_true rfl) dX9_triesBits_149 ⟨Nat.le_of_ble_eq_true rfl, Nat.le_of_ble_eq_true rfl⟩  ((kq_X9_triesBits l D cI cJ m0 a_row a_tape a_number a_read a_readBits a_stands a_parted a_bitsWere a_stood a_chosen a_bestChosen a_often a_sorted a_risen a_risenWays i_thrown i_told i_taped i_at i_to i_readMany i_size (5 : Int32) (242 : Int32)) _)) (fun u H locs hp hP hD hS => ?_)
                                        obtain rfl := hp
                                        have hP : va_P D vwCl [(a_chosen, .inl (cI, 8, .inl (upd (upd f_1 4 2) 4 1))), (a_bestChosen, .inl (cI, 8, .inl g_2)), (m0, .inr (9, [.int i_thrown, .int i_told, .ref a_row, .ref a_tape, .int i_taped, .int i_at, .int i_to, .int 0, .ref a_number, .ref a_read, .int i_readMany, .ref a_readBits, .ref a_stands, .ref a_parted, .ref a_bitsWere, .ref a_stood, .ref a_chosen, .ref a_bestChosen, .int 0, .ref a_often, .ref a_sorted, .int i_size, .ref a_risen, .ref a_risenWays]))] H := hP
                                        have hD : va_D A [(a_chosen, .inl (cI, 8, .inl (upd (upd f_1 4 2) 4 1))), (a_bestChosen, .inl (cI, 8, .inl g_2)), (m0, .inr (9, [.int i_thrown, .int i_told, .ref a_row, .ref a_tape, .int i_taped, .int i_at, .int i_to, .int 0, .ref a_number, .ref a_read, .int i_readMany, .ref a_readBits, .ref a_stands, .ref a_parted, .ref a_bitsWere, .ref a_stood, .ref a_chosen, .ref a_bestChosen, .int 0, .ref a_often, .ref a_sorted, .int i_size, .ref a_risen, .ref a_risenWays]))] := hD
                                        refine lv_iconst (v := 0) hx hb dX9_triesBits_152 (by decide +kernel) ?_
                                        refine lv_istore (lv' := [(6, .int 0), (5, .int 0), (4, .int 1), (0, .ref m0), (1, .int 4), (2, .int 240), (3, .int 0)]) hx hb dX9_triesBits_153 hl (by decide) rfl (fun ls hl => ?_)
                                        refine lv_iload hx hb dX9_triesBits_155 (lv_at hl 0 rfl) ?_
                                        refine lv_aload_n hx hb dX9_triesBits_157 rfl (lv_at hl 3 rfl) ?_
                                        refine va_get (ci := 9) (v := .int 0) (C := RX9) (T := TX9) (N := 24) hx hb hts hi9 hown hK hP 2 rfl rfl 7 (by decide) fl88 (fun _ h9 => h9) rfl dX9_triesBits_158 ?_
                                        refine lv_icmp_ge (tgt := 189) hx hb dX9_triesBits_161 (by decide) (fun c161 => ?_) (fun c161 => ?_)
                                        ·
                                          refine lv_iinc (v := 0) (lv' := [(4, .int 0), (6, .int 0), (5, .int 0), (0, .ref m0), (1, .int 4), (2, .int 240), (3, .int 0)]) hx hb dX9_triesBits_189 hl (k := 2) rfl (by decide +kernel) (by decide) rfl (fun ls hl => ?_)
                                          refine lv_goto (tgt := 99) hx hb dX9_triesBits_192 (by decide) ?_
                                          refine lv_iload hx hb dX9_triesBits_99 (lv_at hl 0 rfl) ?_
                                          refine lv_if_lt (tgt := 195) hx hb dX9_triesBits_101 (by decide) (fun c101 => ?_) (fun c101 => ?_)
                                          ·
                                            exact absurd c101 (by decide +kernel)
                                          ·
                                            refine lv_iload_n hx hb dX9_triesBits_104 rfl (lv_at hl 5 rfl) ?_
                                            refine lv_iload hx hb dX9_triesBits_105 (lv_at hl 0 rfl) ?_
                                            refine lv_ishr hx hb dX9_triesBits_107 ?_
                                            refine my_eqi (y := 240) (by decide +kernel) ?_
                                            refine lv_iconst (v := 1) hx hb dX9_triesBits_108 (by decide +kernel) ?_
                                            refine lv_iand hx hb dX9_triesBits_109 ?_
                                            refine my_eqi (y := 0) (by decide +kernel) ?_
                                            refine lv_if_ne (tgt := 189) hx hb dX9_triesBits_110 (by decide) (fun c110 => ?_) (fun c110 => ?_)
                                            ·
                                              exact absurd c110 (by decide +kernel)
                                            ·
                                              refine lv_aload_n hx hb dX9_triesBits_113 rfl (lv_at hl 3 rfl) ?_
                                              refine va_get (ci := 9) (v := .ref a_chosen) (C := RX9) (T := TX9) (N := 24) hx hb hts hi9 hown hK hP 2 rfl rfl 16 (by decide) fl70 (fun _ h9 => h9) rfl dX9_triesBits_114 ?_
                                              refine lv_iload_n hx hb dX9_triesBits_117 rfl (lv_at hl 4 rfl) ?_
                                              refine lv_iload hx hb dX9_triesBits_118 (lv_at hl 0 rfl) ?_
                                              refine va_iast hx hb hK hP hD hS 0 0 rfl rfl (vp_in_nI (n := 4) (by omega) (by omega)) dX9_triesBits_120 (fun H locs hP hD hS => ?_)
                                              have eU : upd (upd (upd f_1 4 2) 4 1) (4 : Int32).toNatClampNeg 0 = upd (upd (upd f_1 4 2) 4 1) 4 0 := by rw [show (4 : Int32).toNatClampNeg = 4 from by decide +kernel]
                                              rw [eU] at hP hD
                                              have hP : va_P D vwCl [(a_chosen, .inl (cI, 8, .inl (upd (upd (upd f_1 4 2) 4 1) 4 0))), (a_bestChosen, .inl (cI, 8, .inl g_2)), (m0, .inr (9, [.int i_thrown, .int i_told, .ref a_row, .ref a_tape, .int i_taped, .int i_at, .int i_to, .int 0, .ref a_number, .ref a_read, .int i_readMany, .ref a_readBits, .ref a_stands, .ref a_parted, .ref a_bitsWere, .ref a_stood, .ref a_chosen, .ref a_bestChosen, .int 0, .ref a_often, .ref a_sorted, .int i_size, .ref a_risen, .ref a_risenWays]))] H := hP
                                              have hD : va_D A [(a_chosen, .inl (cI, 8, .inl (upd (upd (upd f_1 4 2) 4 1) 4 0))), (a_bestChosen, .inl (cI, 8, .inl g_2)), (m0, .inr (9, [.int i_thrown, .int i_told, .ref a_row, .ref a_tape, .int i_taped, .int i_at, .int i_to, .int 0, .ref a_number, .ref a_read, .int i_readMany, .ref a_readBits, .ref a_stands, .ref a_parted, .ref a_bitsWere, .ref a_stood, .ref a_chosen, .ref a_bestChosen, .int 0, .ref a_often, .ref a_sorted, .int i_size, .ref a_risen, .ref a_risenWays]))] := hD
                                              refine lv_aload_n hx hb dX9_triesBits_121 rfl (lv_at hl 3 rfl) ?_
                                              refine lv_iload hx hb dX9_triesBits_122 (lv_at hl 0 rfl) ?_
                                              refine my_gpI (my_pV (As := [.int 0]) (rest := []) (ci := 9) ⟨hx, hb, hml, hown, hts⟩ (cwV 1 hts gX9_triesBits_X9_runsOf rfl rfl rfl (by decide +kernel) ⟨Nat.le_of_ble_eq_true rfl, Nat.le_of_ble_eq_true rfl⟩) hN hK hP [2] rfl 2 rfl rfl rfl rfl hl.1 rfl (Nat.le_of_ble_eq_true rfl) dX9_triesBits_124 ⟨Nat.le_of_ble_eq_true rfl, Nat.le_of_ble_eq_true rfl⟩  (k0_X9_runsOf l D cI cJ m0 a_row a_tape a_number a_read a_readBits a_stands a_parted a_bitsWere a_stood a_chosen a_bestChosen a_often a_sorted a_risen a_risenWays i_thrown i_told i_taped i_at i_to i_readMany (0 : Int32) i_size (0 : Int32))) (fun r hp => ?_)
                                              obtain rfl := hp
                                              refine lv_istore (lv' := [(5, .int 0), (4, .int 0), (6, .int 0), (0, .ref m0), (1, .int 4), (2, .int 240), (3, .int 0)]) hx hb dX9_triesBits_127 hl (by decide) rfl (fun ls hl => ?_)
                                              refine lv_aload_n hx hb dX9_triesBits_129 rfl (lv_at hl 3 rfl) ?_
                                              refine lv_iload hx hb dX9_triesBits_130 (lv_at hl 1 rfl) ?_
                                              refine my_goV (wr := [(a_chosen, .inl (cI, 8, .inl (upd (upd (upd f_1 4 2) 4 1) 4 0))), (a_bestChosen, .inl (cI, 8, .inl g_2))]) hP hD hS hA [2] [0, 1] rfl rfl (by decide) (by decide) (my_cV (As := [.int 0]) (rest := []) (ci := 9) (wc := [(m0, .inr (9, [.int i_thrown, .int i_told, .ref a_row, .ref a_tape, .int i_taped, .int i_at, .int i_to, .int 0, .ref a_number, .ref a_read, .int i_readMany, .ref a_readBits, .ref a_stands, .ref a_parted, .ref a_bitsWere, .ref a_stood, .ref a_chosen, .ref a_bestChosen, .int 0, .ref a_often, .ref a_sorted, .int i_size, .ref a_risen, .ref a_risenWays]))]) ⟨hx, hb, hml, hown, hts⟩ (cwV 1 hts gX9_triesBits_X9_parts rfl rfl rfl (by decide +kernel) ⟨Nat.le_of_ble_eq_true rfl, Nat.le_of_ble_eq_true rfl⟩) hN hK hP hD [2] rfl (by decide) rfl 2 rfl rfl rfl rfl hl.1 rfl (Nat.le_of_ble_eq_true rfl) dX9_triesBits_132 ⟨Nat.le_of_ble_eq_true rfl, Nat.le_of_ble_eq_true rfl⟩  ((k0_X9_parts l D cI cJ m0 a_row a_tape a_number a_read a_readBits a_stands a_parted a_bitsWere a_stood a_chosen a_bestChosen a_often a_sorted a_risen a_risenWays i_thrown i_told i_taped i_at i_to i_readMany (0 : Int32) i_size (0 : Int32)) _)) (fun u H locs hp hP hD hS => ?_)
                                              obtain rfl := hp
                                              have hP : va_P D vwCl [(a_chosen, .inl (cI, 8, .inl (upd (upd (upd f_1 4 2) 4 1) 4 0))), (a_bestChosen, .inl (cI, 8, .inl g_2)), (m0, .inr (9, [.int i_thrown, .int i_told, .ref a_row, .ref a_tape, .int i_taped, .int i_at, .int i_to, .int 0, .ref a_number, .ref a_read, .int i_readMany, .ref a_readBits, .ref a_stands, .ref a_parted, .ref a_bitsWere, .ref a_stood, .ref a_chosen, .ref a_bestChosen, .int 0, .ref a_often, .ref a_sorted, .int i_size, .ref a_risen, .ref a_risenWays]))] H := hP
                                              have hD : va_D A [(a_chosen, .inl (cI, 8, .inl (upd (upd (upd f_1 4 2) 4 1) 4 0))), (a_bestChosen, .inl (cI, 8, .inl g_2)), (m0, .inr (9, [.int i_thrown, .int i_told, .ref a_row, .ref a_tape, .int i_taped, .int i_at, .int i_to, .int 0, .ref a_number, .ref a_read, .int i_readMany, .ref a_readBits, .ref a_stands, .ref a_parted, .ref a_bitsWere, .ref a_stood, .ref a_chosen, .ref a_bestChosen, .int 0, .ref a_often, .ref a_sorted, .int i_size, .ref a_risen, .ref a_risenWays]))] := hD
                                              refine lv_aload_n hx hb dX9_triesBits_135 rfl (lv_at hl 3 rfl) ?_
                                              refine lv_iload_n hx hb dX9_triesBits_136 rfl (lv_at hl 4 rfl) ?_
                                              refine lv_iconst (v := 1) hx hb dX9_triesBits_137 (by decide +kernel) ?_
                                              refine lv_iadd hx hb dX9_triesBits_138 ?_
                                              refine my_eqi (y := 5) (by decide +kernel) ?_
                                              refine lv_iload_n hx hb dX9_triesBits_139 rfl (lv_at hl 5 rfl) ?_
                                              refine lv_iconst (v := 1) hx hb dX9_triesBits_140 (by decide +kernel) ?_
                                              refine lv_iload hx hb dX9_triesBits_141 (lv_at hl 1 rfl) ?_
                                              refine lv_ishl hx hb dX9_triesBits_143 ?_
                                              refine my_eqi (y := 1) (by decide +kernel) ?_
                                              refine lv_ior hx hb dX9_triesBits_144 ?_
                                              refine my_eqi (y := 241) (by decide +kernel) ?_
                                              refine lv_iload_n hx hb dX9_triesBits_145 rfl (lv_at hl 6 rfl) ?_
                                              refine lv_iload hx hb dX9_triesBits_146 (lv_at hl 0 rfl) ?_
                                              refine lv_iadd hx hb dX9_triesBits_148 ?_
                                              refine my_eqi (y := 0) (by decide +kernel) ?_
                                              refine my_goV (wr := [(a_chosen, .inl (cI, 8, .inl (upd (upd (upd f_1 4 2) 4 1) 4 0))), (a_bestChosen, .inl (cI, 8, .inl g_2))]) hP hD hS hA [2] [0, 1] rfl rfl (by decide) (by decide) (my_cV (As := [.int 5, .int 241, .int 0]) (rest := []) (ci := 9) (wc := [(m0, .inr (9, [.int i_thrown, .int i_told, .ref a_row, .ref a_tape, .int i_taped, .int i_at, .int i_to, .int 0, .ref a_number, .ref a_read, .int i_readMany, .ref a_readBits, .ref a_stands, .ref a_parted, .ref a_bitsWere, .ref a_stood, .ref a_chosen, .ref a_bestChosen, .int 0, .ref a_often, .ref a_sorted, .int i_size, .ref a_risen, .ref a_risenWays]))]) ⟨hx, hb, hml, hown, hts⟩ (cwV 3 hts gX9_triesBits_X9_triesBits rfl rfl rfl (by decide +kernel) ⟨Nat.le_of_ble_eq_true rfl, Nat.le_of_ble_eq_true rfl⟩) hN hK hP hD [2] rfl (by decide) rfl 2 rfl rfl rfl rfl hl.1 rfl (Nat.le_of_ble_eq_true rfl) dX9_triesBits_149 ⟨Nat.le_of_ble_eq_true rfl, Nat.le_of_ble_eq_true rfl⟩  ((kq_X9_triesBits l D cI cJ m0 a_row a_tape a_number a_read a_readBits a_stands a_parted a_bitsWere a_stood a_chosen a_bestChosen a_often a_sorted a_risen a_risenWays i_thrown i_told i_taped i_at i_to i_readMany i_size (5 : Int32) (241 : Int32)) _)) (fun u H locs hp hP hD hS => ?_)
                                              obtain rfl := hp
                                              have hP : va_P D vwCl [(a_chosen, .inl (cI, 8, .inl (upd (upd (upd f_1 4 2) 4 1) 4 0))), (a_bestChosen, .inl (cI, 8, .inl g_2)), (m0, .inr (9, [.int i_thrown, .int i_told, .ref a_row, .ref a_tape, .int i_taped, .int i_at, .int i_to, .int 0, .ref a_number, .ref a_read, .int i_readMany, .ref a_readBits, .ref a_stands, .ref a_parted, .ref a_bitsWere, .ref a_stood, .ref a_chosen, .ref a_bestChosen, .int 0, .ref a_often, .ref a_sorted, .int i_size, .ref a_risen, .ref a_risenWays]))] H := hP
                                              have hD : va_D A [(a_chosen, .inl (cI, 8, .inl (upd (upd (upd f_1 4 2) 4 1) 4 0))), (a_bestChosen, .inl (cI, 8, .inl g_2)), (m0, .inr (9, [.int i_thrown, .int i_told, .ref a_row, .ref a_tape, .int i_taped, .int i_at, .int i_to, .int 0, .ref a_number, .ref a_read, .int i_readMany, .ref a_readBits, .ref a_stands, .ref a_parted, .ref a_bitsWere, .ref a_stood, .ref a_chosen, .ref a_bestChosen, .int 0, .ref a_often, .ref a_sorted, .int i_size, .ref a_risen, .ref a_risenWays]))] := hD
                                              refine lv_iconst (v := 0) hx hb dX9_triesBits_152 (by decide +kernel) ?_
                                              refine lv_istore (lv' := [(6, .int 0), (5, .int 0), (4, .int 0), (0, .ref m0), (1, .int 4), (2, .int 240), (3, .int 0)]) hx hb dX9_triesBits_153 hl (by decide) rfl (fun ls hl => ?_)
                                              refine lv_iload hx hb dX9_triesBits_155 (lv_at hl 0 rfl) ?_
                                              refine lv_aload_n hx hb dX9_triesBits_157 rfl (lv_at hl 3 rfl) ?_
                                              refine va_get (ci := 9) (v := .int 0) (C := RX9) (T := TX9) (N := 24) hx hb hts hi9 hown hK hP 2 rfl rfl 7 (by decide) fl88 (fun _ h9 => h9) rfl dX9_triesBits_158 ?_
                                              refine lv_icmp_ge (tgt := 189) hx hb dX9_triesBits_161 (by decide) (fun c161 => ?_) (fun c161 => ?_)
                                              ·
                                                refine lv_iinc (v := (-1)) (lv' := [(4, .int (-1)), (6, .int 0), (5, .int 0), (0, .ref m0), (1, .int 4), (2, .int 240), (3, .int 0)]) hx hb dX9_triesBits_189 hl (k := 2) rfl (by decide +kernel) (by decide) rfl (fun ls hl => ?_)
                                                refine lv_goto (tgt := 99) hx hb dX9_triesBits_192 (by decide) ?_
                                                refine lv_iload hx hb dX9_triesBits_99 (lv_at hl 0 rfl) ?_
                                                refine lv_if_lt (tgt := 195) hx hb dX9_triesBits_101 (by decide) (fun c101 => ?_) (fun c101 => ?_)
                                                ·
                                                  exact my_retV hx hb hr hlocks hK hS [(m0, .inr (9, [.int i_thrown, .int i_told, .ref a_row, .ref a_tape, .int i_taped, .int i_at, .int i_to, .int 0, .ref a_number, .ref a_read, .int i_readMany, .ref a_readBits, .ref a_stands, .ref a_parted, .ref a_bitsWere, .ref a_stood, .ref a_chosen, .ref a_bestChosen, .int 0, .ref a_often, .ref a_sorted, .int i_size, .ref a_risen, .ref a_risenWays])), (a_chosen, .inl (cI, 8, .inl (upd (upd (upd f_1 4 2) 4 1) 4 0))), (a_bestChosen, .inl (cI, 8, .inl g_2))] (hP.sub [2, 0, 1] rfl) (hD.sub [2, 0, 1] (by decide) rfl) (⟨(upd (upd (upd f_1 4 2) 4 1) 4 0), g_2, rfl⟩) dX9_triesBits_195
                                                ·
                                                  exact absurd c101 (by decide +kernel)
                                              ·
                                                exact absurd c161 (by decide +kernel)
                                        ·
                                          exact absurd c161 (by decide +kernel)
                                  ·
                                    exact absurd c161 (by decide +kernel)
                            ·
                              exact absurd c161 (by decide +kernel)
                      ·
                        exact absurd c110 (by decide +kernel)
                  ·
                    exact absurd c110 (by decide +kernel)
              ·
                exact absurd c110 (by decide +kernel)
          ·
            exact absurd c110 (by decide +kernel)
      ·
        exact absurd c67 (by decide +kernel)
    ·
      exact absurd c19 (by decide +kernel)
  ·
    exact absurd c4 (by decide +kernel)
set_option maxHeartbeats 4000000 in
set_option maxRecDepth 100000 in
theorem k0_X9_triesBits_3 (l : Launch) (D : va_G) (cI cJ : ClassId) (m0 : Nat) (a_row : Nat) (a_tape : Nat) (a_number : Nat) (a_read : Nat) (a_readBits : Nat) (a_stands : Nat) (a_parted : Nat) (a_bitsWere : Nat) (a_stood : Nat) (a_chosen : Nat) (a_bestChosen : Nat) (a_often : Nat) (a_sorted : Nat) (a_risen : Nat) (a_risenWays : Nat) (i_thrown : Int32) (i_told : Int32) (i_taped : Int32) (i_at : Int32) (i_to : Int32) (i_readMany : Int32) (i_size : Int32) (f : Nat → Int32) (g : Nat → Int32) : ctV l yX9_triesBits wsX9_triesBits ({ frames := 5, cells := 0, slots := 0, locals := 300 } : Room) D (tyIJ cI cJ) [.ref m0, .int 3, .int 224, .int 0] [(m0, .inr (9, [.int i_thrown, .int i_told, .ref a_row, .ref a_tape, .int i_taped, .int i_at, .int i_to, .int 0, .ref a_number, .ref a_read, .int i_readMany, .ref a_readBits, .ref a_stands, .ref a_parted, .ref a_bitsWere, .ref a_stood, .ref a_chosen, .ref a_bestChosen, .int (-1), .ref a_often, .ref a_sorted, .int i_size, .ref a_risen, .ref a_risenWays])), (a_chosen, .inl (cI, 8, .inl f)), (a_bestChosen, .inl (cI, 8, .inl g))] (fun (u : va_W) => ∃ (f' : Nat → Int32) (g' : Nat → Int32), u = [(m0, .inr (9, [.int i_thrown, .int i_told, .ref a_row, .ref a_tape, .int i_taped, .int i_at, .int i_to, .int 0, .ref a_number, .ref a_read, .int i_readMany, .ref a_readBits, .ref a_stands, .ref a_parted, .ref a_bitsWere, .ref a_stood, .ref a_chosen, .ref a_bestChosen, .int 0, .ref a_often, .ref a_sorted, .int i_size, .ref a_risen, .ref a_risenWays])), (a_chosen, .inl (cI, 8, .inl f')), (a_bestChosen, .inl (cI, 8, .inl g'))]) := by
  refine ctV.of (cc := cX9_triesBits) (maxL := 7) (ret := none) (by decide) rfl (Nat.le_of_ble_eq_true rfl) ?_
  intro p e s m below meth c ls A hx hb hr hts hown hml hlocks hname hA hK hN hP hD hS hl
  have hl : lv_has ls 7 [(0, .ref m0), (1, .int 3), (2, .int 224), (3, .int 0)] := hl
  have hown : s.vm.findClass RX9 = some m.cls := hown
  have hi9 : ∀ w ∈ u_ws RX9 TX9 24, w ∈ wsX9_triesBits := by decide +kernel
  have fl162 := hts (.fieldLink RX9 162 "PlaneColumnModel" "fewest" "I") (by decide +kernel)
  have fl70 := hts (.fieldLink RX9 70 "PlaneColumnModel" "chosen" "[I") (by decide +kernel)
  have fl88 := hts (.fieldLink RX9 88 "PlaneColumnModel" "many" "I") (by decide +kernel)
  refine lv_aload_n hx hb dX9_triesBits_0 rfl (lv_at hl 0 rfl) ?_
  refine va_get (ci := 9) (v := .int (-1)) (C := RX9) (T := TX9) (N := 24) hx hb hts hi9 hown hK hP 0 rfl rfl 18 (by decide) fl162 (fun _ h9 => h9) rfl dX9_triesBits_1 ?_
  refine lv_if_lt (tgt := 16) hx hb dX9_triesBits_4 (by decide) (fun c4 => ?_) (fun c4 => ?_)
  ·
    refine lv_iload_n hx hb dX9_triesBits_16 rfl (lv_at hl 1 rfl) ?_
    refine lv_bipush (v := 8) hx hb dX9_triesBits_17 (by decide +kernel) ?_
    refine lv_icmp_ne (tgt := 58) hx hb dX9_triesBits_19 (by decide) (fun c19 => ?_) (fun c19 => ?_)
    ·
      refine lv_iconst (v := 0) hx hb dX9_triesBits_58 (by decide +kernel) ?_
      refine lv_istore (lv' := [(4, .int 0), (0, .ref m0), (1, .int 3), (2, .int 224), (3, .int 0)]) hx hb dX9_triesBits_59 hl (by decide) rfl (fun ls hl => ?_)
      refine lv_iload hx hb dX9_triesBits_61 (lv_at hl 0 rfl) ?_
      refine lv_aload_n hx hb dX9_triesBits_63 rfl (lv_at hl 1 rfl) ?_
      refine va_get (ci := 9) (v := .int 0) (C := RX9) (T := TX9) (N := 24) hx hb hts hi9 hown hK hP 0 rfl rfl 7 (by decide) fl88 (fun _ h9 => h9) rfl dX9_triesBits_64 ?_
      refine lv_icmp_ge (tgt := 95) hx hb dX9_triesBits_67 (by decide) (fun c67 => ?_) (fun c67 => ?_)
      ·
        refine lv_bipush (v := 7) hx hb dX9_triesBits_95 (by decide +kernel) ?_
        refine lv_istore (lv' := [(4, .int 7), (0, .ref m0), (1, .int 3), (2, .int 224), (3, .int 0)]) hx hb dX9_triesBits_97 hl (by decide) rfl (fun ls hl => ?_)
        refine lv_iload hx hb dX9_triesBits_99 (lv_at hl 0 rfl) ?_
        refine lv_if_lt (tgt := 195) hx hb dX9_triesBits_101 (by decide) (fun c101 => ?_) (fun c101 => ?_)
        ·
          exact absurd c101 (by decide +kernel)
        ·
          refine lv_iload_n hx hb dX9_triesBits_104 rfl (lv_at hl 3 rfl) ?_
          refine lv_iload hx hb dX9_triesBits_105 (lv_at hl 0 rfl) ?_
          refine lv_ishr hx hb dX9_triesBits_107 ?_
          refine my_eqi (y := 1) (by decide +kernel) ?_
          refine lv_iconst (v := 1) hx hb dX9_triesBits_108 (by decide +kernel) ?_
          refine lv_iand hx hb dX9_triesBits_109 ?_
          refine my_eqi (y := 1) (by decide +kernel) ?_
          refine lv_if_ne (tgt := 189) hx hb dX9_triesBits_110 (by decide) (fun c110 => ?_) (fun c110 => ?_)
          ·
            refine lv_iinc (v := 6) (lv' := [(4, .int 6), (0, .ref m0), (1, .int 3), (2, .int 224), (3, .int 0)]) hx hb dX9_triesBits_189 hl (k := 0) rfl (by decide +kernel) (by decide) rfl (fun ls hl => ?_)
            refine lv_goto (tgt := 99) hx hb dX9_triesBits_192 (by decide) ?_
            refine lv_iload hx hb dX9_triesBits_99 (lv_at hl 0 rfl) ?_
            refine lv_if_lt (tgt := 195) hx hb dX9_triesBits_101 (by decide) (fun c101 => ?_) (fun c101 => ?_)
            ·
              exact absurd c101 (by decide +kernel)
            ·
              refine lv_iload_n hx hb dX9_triesBits_104 rfl (lv_at hl 3 rfl) ?_
              refine lv_iload hx hb dX9_triesBits_105 (lv_at hl 0 rfl) ?_
              refine lv_ishr hx hb dX9_triesBits_107 ?_
              refine my_eqi (y := 3) (by decide +kernel) ?_
              refine lv_iconst (v := 1) hx hb dX9_triesBits_108 (by decide +kernel) ?_
              refine lv_iand hx hb dX9_triesBits_109 ?_
              refine my_eqi (y := 1) (by decide +kernel) ?_
              refine lv_if_ne (tgt := 189) hx hb dX9_triesBits_110 (by decide) (fun c110 => ?_) (fun c110 => ?_)
              ·
                refine lv_iinc (v := 5) (lv' := [(4, .int 5), (0, .ref m0), (1, .int 3), (2, .int 224), (3, .int 0)]) hx hb dX9_triesBits_189 hl (k := 0) rfl (by decide +kernel) (by decide) rfl (fun ls hl => ?_)
                refine lv_goto (tgt := 99) hx hb dX9_triesBits_192 (by decide) ?_
                refine lv_iload hx hb dX9_triesBits_99 (lv_at hl 0 rfl) ?_
                refine lv_if_lt (tgt := 195) hx hb dX9_triesBits_101 (by decide) (fun c101 => ?_) (fun c101 => ?_)
                ·
                  exact absurd c101 (by decide +kernel)
                ·
                  refine lv_iload_n hx hb dX9_triesBits_104 rfl (lv_at hl 3 rfl) ?_
                  refine lv_iload hx hb dX9_triesBits_105 (lv_at hl 0 rfl) ?_
                  refine lv_ishr hx hb dX9_triesBits_107 ?_
                  refine my_eqi (y := 7) (by decide +kernel) ?_
                  refine lv_iconst (v := 1) hx hb dX9_triesBits_108 (by decide +kernel) ?_
                  refine lv_iand hx hb dX9_triesBits_109 ?_
                  refine my_eqi (y := 1) (by decide +kernel) ?_
                  refine lv_if_ne (tgt := 189) hx hb dX9_triesBits_110 (by decide) (fun c110 => ?_) (fun c110 => ?_)
                  ·
                    refine lv_iinc (v := 4) (lv' := [(4, .int 4), (0, .ref m0), (1, .int 3), (2, .int 224), (3, .int 0)]) hx hb dX9_triesBits_189 hl (k := 0) rfl (by decide +kernel) (by decide) rfl (fun ls hl => ?_)
                    refine lv_goto (tgt := 99) hx hb dX9_triesBits_192 (by decide) ?_
                    refine lv_iload hx hb dX9_triesBits_99 (lv_at hl 0 rfl) ?_
                    refine lv_if_lt (tgt := 195) hx hb dX9_triesBits_101 (by decide) (fun c101 => ?_) (fun c101 => ?_)
                    ·
                      exact absurd c101 (by decide +kernel)
                    ·
                      refine lv_iload_n hx hb dX9_triesBits_104 rfl (lv_at hl 3 rfl) ?_
                      refine lv_iload hx hb dX9_triesBits_105 (lv_at hl 0 rfl) ?_
                      refine lv_ishr hx hb dX9_triesBits_107 ?_
                      refine my_eqi (y := 14) (by decide +kernel) ?_
                      refine lv_iconst (v := 1) hx hb dX9_triesBits_108 (by decide +kernel) ?_
                      refine lv_iand hx hb dX9_triesBits_109 ?_
                      refine my_eqi (y := 0) (by decide +kernel) ?_
                      refine lv_if_ne (tgt := 189) hx hb dX9_triesBits_110 (by decide) (fun c110 => ?_) (fun c110 => ?_)
                      ·
                        exact absurd c110 (by decide +kernel)
                      ·
                        refine lv_aload_n hx hb dX9_triesBits_113 rfl (lv_at hl 1 rfl) ?_
                        refine va_get (ci := 9) (v := .ref a_chosen) (C := RX9) (T := TX9) (N := 24) hx hb hts hi9 hown hK hP 0 rfl rfl 16 (by decide) fl70 (fun _ h9 => h9) rfl dX9_triesBits_114 ?_
                        refine lv_iload_n hx hb dX9_triesBits_117 rfl (lv_at hl 2 rfl) ?_
                        refine lv_iload hx hb dX9_triesBits_118 (lv_at hl 0 rfl) ?_
                        refine va_iast hx hb hK hP hD hS 1 0 rfl rfl (vp_in_nI (n := 3) (by omega) (by omega)) dX9_triesBits_120 (fun H locs hP hD hS => ?_)
                        have eU : upd f (3 : Int32).toNatClampNeg 4 = upd f 3 4 := by rw [show (3 : Int32).toNatClampNeg = 3 from by decide +kernel]
                        rw [eU] at hP hD
                        have hP : va_P D vwCl [(m0, .inr (9, [.int i_thrown, .int i_told, .ref a_row, .ref a_tape, .int i_taped, .int i_at, .int i_to, .int 0, .ref a_number, .ref a_read, .int i_readMany, .ref a_readBits, .ref a_stands, .ref a_parted, .ref a_bitsWere, .ref a_stood, .ref a_chosen, .ref a_bestChosen, .int (-1), .ref a_often, .ref a_sorted, .int i_size, .ref a_risen, .ref a_risenWays])), (a_chosen, .inl (cI, 8, .inl (upd f 3 4))), (a_bestChosen, .inl (cI, 8, .inl g))] H := hP
                        have hD : va_D A [(m0, .inr (9, [.int i_thrown, .int i_told, .ref a_row, .ref a_tape, .int i_taped, .int i_at, .int i_to, .int 0, .ref a_number, .ref a_read, .int i_readMany, .ref a_readBits, .ref a_stands, .ref a_parted, .ref a_bitsWere, .ref a_stood, .ref a_chosen, .ref a_bestChosen, .int (-1), .ref a_often, .ref a_sorted, .int i_size, .ref a_risen, .ref a_risenWays])), (a_chosen, .inl (cI, 8, .inl (upd f 3 4))), (a_bestChosen, .inl (cI, 8, .inl g))] := hD
                        refine lv_aload_n hx hb dX9_triesBits_121 rfl (lv_at hl 1 rfl) ?_
                        refine lv_iload hx hb dX9_triesBits_122 (lv_at hl 0 rfl) ?_
                        refine my_gpI (my_pV (As := [.int 4]) (rest := []) (ci := 9) ⟨hx, hb, hml, hown, hts⟩ (cwV 1 hts gX9_triesBits_X9_runsOf rfl rfl rfl (by decide +kernel) ⟨Nat.le_of_ble_eq_true rfl, Nat.le_of_ble_eq_true rfl⟩) hN hK hP [0] rfl 0 rfl rfl rfl rfl hl.1 rfl (Nat.le_of_ble_eq_true rfl) dX9_triesBits_124 ⟨Nat.le_of_ble_eq_true rfl, Nat.le_of_ble_eq_true rfl⟩  (k0_X9_runsOf l D cI cJ m0 a_row a_tape a_number a_read a_readBits a_stands a_parted a_bitsWere a_stood a_chosen a_bestChosen a_often a_sorted a_risen a_risenWays i_thrown i_told i_taped i_at i_to i_readMany (-1 : Int32) i_size (4 : Int32))) (fun r hp => ?_)
                        obtain rfl := hp
                        refine lv_istore (lv' := [(5, .int 0), (4, .int 4), (0, .ref m0), (1, .int 3), (2, .int 224), (3, .int 0)]) hx hb dX9_triesBits_127 hl (by decide) rfl (fun ls hl => ?_)
                        refine lv_aload_n hx hb dX9_triesBits_129 rfl (lv_at hl 2 rfl) ?_
                        refine lv_iload hx hb dX9_triesBits_130 (lv_at hl 1 rfl) ?_
                        refine my_goV (wr := [(a_chosen, .inl (cI, 8, .inl (upd f 3 4))), (a_bestChosen, .inl (cI, 8, .inl g))]) hP hD hS hA [0] [1, 2] rfl rfl (by decide) (by decide) (my_cV (As := [.int 4]) (rest := []) (ci := 9) (wc := [(m0, .inr (9, [.int i_thrown, .int i_told, .ref a_row, .ref a_tape, .int i_taped, .int i_at, .int i_to, .int 0, .ref a_number, .ref a_read, .int i_readMany, .ref a_readBits, .ref a_stands, .ref a_parted, .ref a_bitsWere, .ref a_stood, .ref a_chosen, .ref a_bestChosen, .int (-1), .ref a_often, .ref a_sorted, .int i_size, .ref a_risen, .ref a_risenWays]))]) ⟨hx, hb, hml, hown, hts⟩ (cwV 1 hts gX9_triesBits_X9_parts rfl rfl rfl (by decide +kernel) ⟨Nat.le_of_ble_eq_true rfl, Nat.le_of_ble_eq_true rfl⟩) hN hK hP hD [0] rfl (by decide) rfl 0 rfl rfl rfl rfl hl.1 rfl (Nat.le_of_ble_eq_true rfl) dX9_triesBits_132 ⟨Nat.le_of_ble_eq_true rfl, Nat.le_of_ble_eq_true rfl⟩  ((k0_X9_parts l D cI cJ m0 a_row a_tape a_number a_read a_readBits a_stands a_parted a_bitsWere a_stood a_chosen a_bestChosen a_often a_sorted a_risen a_risenWays i_thrown i_told i_taped i_at i_to i_readMany (-1 : Int32) i_size (4 : Int32)) _)) (fun u H locs hp hP hD hS => ?_)
                        obtain rfl := hp
                        have hP : va_P D vwCl [(a_chosen, .inl (cI, 8, .inl (upd f 3 4))), (a_bestChosen, .inl (cI, 8, .inl g)), (m0, .inr (9, [.int i_thrown, .int i_told, .ref a_row, .ref a_tape, .int i_taped, .int i_at, .int i_to, .int 0, .ref a_number, .ref a_read, .int i_readMany, .ref a_readBits, .ref a_stands, .ref a_parted, .ref a_bitsWere, .ref a_stood, .ref a_chosen, .ref a_bestChosen, .int (-1), .ref a_often, .ref a_sorted, .int i_size, .ref a_risen, .ref a_risenWays]))] H := hP
                        have hD : va_D A [(a_chosen, .inl (cI, 8, .inl (upd f 3 4))), (a_bestChosen, .inl (cI, 8, .inl g)), (m0, .inr (9, [.int i_thrown, .int i_told, .ref a_row, .ref a_tape, .int i_taped, .int i_at, .int i_to, .int 0, .ref a_number, .ref a_read, .int i_readMany, .ref a_readBits, .ref a_stands, .ref a_parted, .ref a_bitsWere, .ref a_stood, .ref a_chosen, .ref a_bestChosen, .int (-1), .ref a_often, .ref a_sorted, .int i_size, .ref a_risen, .ref a_risenWays]))] := hD
                        refine lv_aload_n hx hb dX9_triesBits_135 rfl (lv_at hl 2 rfl) ?_
                        refine lv_iload_n hx hb dX9_triesBits_136 rfl (lv_at hl 3 rfl) ?_
                        refine lv_iconst (v := 1) hx hb dX9_triesBits_137 (by decide +kernel) ?_
                        refine lv_iadd hx hb dX9_triesBits_138 ?_
                        refine my_eqi (y := 4) (by decide +kernel) ?_
                        refine lv_iload_n hx hb dX9_triesBits_139 rfl (lv_at hl 4 rfl) ?_
                        refine lv_iconst (v := 1) hx hb dX9_triesBits_140 (by decide +kernel) ?_
                        refine lv_iload hx hb dX9_triesBits_141 (lv_at hl 1 rfl) ?_
                        refine lv_ishl hx hb dX9_triesBits_143 ?_
                        refine my_eqi (y := 16) (by decide +kernel) ?_
                        refine lv_ior hx hb dX9_triesBits_144 ?_
                        refine my_eqi (y := 240) (by decide +kernel) ?_
                        refine lv_iload_n hx hb dX9_triesBits_145 rfl (lv_at hl 5 rfl) ?_
                        refine lv_iload hx hb dX9_triesBits_146 (lv_at hl 0 rfl) ?_
                        refine lv_iadd hx hb dX9_triesBits_148 ?_
                        refine my_eqi (y := 0) (by decide +kernel) ?_
                        refine my_goV (wr := []) hP hD hS hA [2, 0, 1] [] rfl rfl (by decide) (by decide) (my_cV (As := [.int 4, .int 240, .int 0]) (rest := []) (ci := 9) (wc := [(m0, .inr (9, [.int i_thrown, .int i_told, .ref a_row, .ref a_tape, .int i_taped, .int i_at, .int i_to, .int 0, .ref a_number, .ref a_read, .int i_readMany, .ref a_readBits, .ref a_stands, .ref a_parted, .ref a_bitsWere, .ref a_stood, .ref a_chosen, .ref a_bestChosen, .int (-1), .ref a_often, .ref a_sorted, .int i_size, .ref a_risen, .ref a_risenWays])), (a_chosen, .inl (cI, 8, .inl (upd f 3 4))), (a_bestChosen, .inl (cI, 8, .inl g))]) ⟨hx, hb, hml, hown, hts⟩ (cwV 3 hts gX9_triesBits_X9_triesBits rfl rfl rfl (by decide +kernel) ⟨Nat.le_of_ble_eq_true rfl, Nat.le_of_ble_eq_true rfl⟩) hN hK hP hD [2, 0, 1] rfl (by decide) rfl 2 rfl rfl rfl rfl hl.1 rfl (Nat.le_of_ble_eq_true rfl) dX9_triesBits_149 ⟨Nat.le_of_ble_eq_true rfl, Nat.le_of_ble_eq_true rfl⟩  ((k0_X9_triesBits_4 l D cI cJ m0 a_row a_tape a_number a_read a_readBits a_stands a_parted a_bitsWere a_stood a_chosen a_bestChosen a_often a_sorted a_risen a_risenWays i_thrown i_told i_taped i_at i_to i_readMany i_size (upd f 3 4) g) _)) (fun u H locs hp hP hD hS => ?_)
                        obtain ⟨f_1, g_2, rfl⟩ := hp
                        have hP : va_P D vwCl [(m0, .inr (9, [.int i_thrown, .int i_told, .ref a_row, .ref a_tape, .int i_taped, .int i_at, .int i_to, .int 0, .ref a_number, .ref a_read, .int i_readMany, .ref a_readBits, .ref a_stands, .ref a_parted, .ref a_bitsWere, .ref a_stood, .ref a_chosen, .ref a_bestChosen, .int 0, .ref a_often, .ref a_sorted, .int i_size, .ref a_risen, .ref a_risenWays])), (a_chosen, .inl (cI, 8, .inl f_1)), (a_bestChosen, .inl (cI, 8, .inl g_2))] H := hP
                        have hD : va_D A [(m0, .inr (9, [.int i_thrown, .int i_told, .ref a_row, .ref a_tape, .int i_taped, .int i_at, .int i_to, .int 0, .ref a_number, .ref a_read, .int i_readMany, .ref a_readBits, .ref a_stands, .ref a_parted, .ref a_bitsWere, .ref a_stood, .ref a_chosen, .ref a_bestChosen, .int 0, .ref a_often, .ref a_sorted, .int i_size, .ref a_risen, .ref a_risenWays])), (a_chosen, .inl (cI, 8, .inl f_1)), (a_bestChosen, .inl (cI, 8, .inl g_2))] := hD
                        refine lv_iconst (v := 0) hx hb dX9_triesBits_152 (by decide +kernel) ?_
                        refine lv_istore (lv' := [(6, .int 0), (5, .int 0), (4, .int 4), (0, .ref m0), (1, .int 3), (2, .int 224), (3, .int 0)]) hx hb dX9_triesBits_153 hl (by decide) rfl (fun ls hl => ?_)
                        refine lv_iload hx hb dX9_triesBits_155 (lv_at hl 0 rfl) ?_
                        refine lv_aload_n hx hb dX9_triesBits_157 rfl (lv_at hl 3 rfl) ?_
                        refine va_get (ci := 9) (v := .int 0) (C := RX9) (T := TX9) (N := 24) hx hb hts hi9 hown hK hP 0 rfl rfl 7 (by decide) fl88 (fun _ h9 => h9) rfl dX9_triesBits_158 ?_
                        refine lv_icmp_ge (tgt := 189) hx hb dX9_triesBits_161 (by decide) (fun c161 => ?_) (fun c161 => ?_)
                        ·
                          refine lv_iinc (v := 3) (lv' := [(4, .int 3), (6, .int 0), (5, .int 0), (0, .ref m0), (1, .int 3), (2, .int 224), (3, .int 0)]) hx hb dX9_triesBits_189 hl (k := 2) rfl (by decide +kernel) (by decide) rfl (fun ls hl => ?_)
                          refine lv_goto (tgt := 99) hx hb dX9_triesBits_192 (by decide) ?_
                          refine lv_iload hx hb dX9_triesBits_99 (lv_at hl 0 rfl) ?_
                          refine lv_if_lt (tgt := 195) hx hb dX9_triesBits_101 (by decide) (fun c101 => ?_) (fun c101 => ?_)
                          ·
                            exact absurd c101 (by decide +kernel)
                          ·
                            refine lv_iload_n hx hb dX9_triesBits_104 rfl (lv_at hl 5 rfl) ?_
                            refine lv_iload hx hb dX9_triesBits_105 (lv_at hl 0 rfl) ?_
                            refine lv_ishr hx hb dX9_triesBits_107 ?_
                            refine my_eqi (y := 28) (by decide +kernel) ?_
                            refine lv_iconst (v := 1) hx hb dX9_triesBits_108 (by decide +kernel) ?_
                            refine lv_iand hx hb dX9_triesBits_109 ?_
                            refine my_eqi (y := 0) (by decide +kernel) ?_
                            refine lv_if_ne (tgt := 189) hx hb dX9_triesBits_110 (by decide) (fun c110 => ?_) (fun c110 => ?_)
                            ·
                              exact absurd c110 (by decide +kernel)
                            ·
                              refine lv_aload_n hx hb dX9_triesBits_113 rfl (lv_at hl 3 rfl) ?_
                              refine va_get (ci := 9) (v := .ref a_chosen) (C := RX9) (T := TX9) (N := 24) hx hb hts hi9 hown hK hP 0 rfl rfl 16 (by decide) fl70 (fun _ h9 => h9) rfl dX9_triesBits_114 ?_
                              refine lv_iload_n hx hb dX9_triesBits_117 rfl (lv_at hl 4 rfl) ?_
                              refine lv_iload hx hb dX9_triesBits_118 (lv_at hl 0 rfl) ?_
                              refine va_iast hx hb hK hP hD hS 1 0 rfl rfl (vp_in_nI (n := 3) (by omega) (by omega)) dX9_triesBits_120 (fun H locs hP hD hS => ?_)
                              have eU : upd f_1 (3 : Int32).toNatClampNeg 3 = upd f_1 3 3 := by rw [show (3 : Int32).toNatClampNeg = 3 from by decide +kernel]
                              rw [eU] at hP hD
                              have hP : va_P D vwCl [(m0, .inr (9, [.int i_thrown, .int i_told, .ref a_row, .ref a_tape, .int i_taped, .int i_at, .int i_to, .int 0, .ref a_number, .ref a_read, .int i_readMany, .ref a_readBits, .ref a_stands, .ref a_parted, .ref a_bitsWere, .ref a_stood, .ref a_chosen, .ref a_bestChosen, .int 0, .ref a_often, .ref a_sorted, .int i_size, .ref a_risen, .ref a_risenWays])), (a_chosen, .inl (cI, 8, .inl (upd f_1 3 3))), (a_bestChosen, .inl (cI, 8, .inl g_2))] H := hP
                              have hD : va_D A [(m0, .inr (9, [.int i_thrown, .int i_told, .ref a_row, .ref a_tape, .int i_taped, .int i_at, .int i_to, .int 0, .ref a_number, .ref a_read, .int i_readMany, .ref a_readBits, .ref a_stands, .ref a_parted, .ref a_bitsWere, .ref a_stood, .ref a_chosen, .ref a_bestChosen, .int 0, .ref a_often, .ref a_sorted, .int i_size, .ref a_risen, .ref a_risenWays])), (a_chosen, .inl (cI, 8, .inl (upd f_1 3 3))), (a_bestChosen, .inl (cI, 8, .inl g_2))] := hD
                              refine lv_aload_n hx hb dX9_triesBits_121 rfl (lv_at hl 3 rfl) ?_
                              refine lv_iload hx hb dX9_triesBits_122 (lv_at hl 0 rfl) ?_
                              refine my_gpI (my_pV (As := [.int 3]) (rest := []) (ci := 9) ⟨hx, hb, hml, hown, hts⟩ (cwV 1 hts gX9_triesBits_X9_runsOf rfl rfl rfl (by decide +kernel) ⟨Nat.le_of_ble_eq_true rfl, Nat.le_of_ble_eq_true rfl⟩) hN hK hP [0] rfl 0 rfl rfl rfl rfl hl.1 rfl (Nat.le_of_ble_eq_true rfl) dX9_triesBits_124 ⟨Nat.le_of_ble_eq_true rfl, Nat.le_of_ble_eq_true rfl⟩  (k0_X9_runsOf l D cI cJ m0 a_row a_tape a_number a_read a_readBits a_stands a_parted a_bitsWere a_stood a_chosen a_bestChosen a_often a_sorted a_risen a_risenWays i_thrown i_told i_taped i_at i_to i_readMany (0 : Int32) i_size (3 : Int32))) (fun r hp => ?_)
                              obtain rfl := hp
                              refine lv_istore (lv' := [(5, .int 0), (4, .int 3), (6, .int 0), (0, .ref m0), (1, .int 3), (2, .int 224), (3, .int 0)]) hx hb dX9_triesBits_127 hl (by decide) rfl (fun ls hl => ?_)
                              refine lv_aload_n hx hb dX9_triesBits_129 rfl (lv_at hl 3 rfl) ?_
                              refine lv_iload hx hb dX9_triesBits_130 (lv_at hl 1 rfl) ?_
                              refine my_goV (wr := [(a_chosen, .inl (cI, 8, .inl (upd f_1 3 3))), (a_bestChosen, .inl (cI, 8, .inl g_2))]) hP hD hS hA [0] [1, 2] rfl rfl (by decide) (by decide) (my_cV (As := [.int 3]) (rest := []) (ci := 9) (wc := [(m0, .inr (9, [.int i_thrown, .int i_told, .ref a_row, .ref a_tape, .int i_taped, .int i_at, .int i_to, .int 0, .ref a_number, .ref a_read, .int i_readMany, .ref a_readBits, .ref a_stands, .ref a_parted, .ref a_bitsWere, .ref a_stood, .ref a_chosen, .ref a_bestChosen, .int 0, .ref a_often, .ref a_sorted, .int i_size, .ref a_risen, .ref a_risenWays]))]) ⟨hx, hb, hml, hown, hts⟩ (cwV 1 hts gX9_triesBits_X9_parts rfl rfl rfl (by decide +kernel) ⟨Nat.le_of_ble_eq_true rfl, Nat.le_of_ble_eq_true rfl⟩) hN hK hP hD [0] rfl (by decide) rfl 0 rfl rfl rfl rfl hl.1 rfl (Nat.le_of_ble_eq_true rfl) dX9_triesBits_132 ⟨Nat.le_of_ble_eq_true rfl, Nat.le_of_ble_eq_true rfl⟩  ((k0_X9_parts l D cI cJ m0 a_row a_tape a_number a_read a_readBits a_stands a_parted a_bitsWere a_stood a_chosen a_bestChosen a_often a_sorted a_risen a_risenWays i_thrown i_told i_taped i_at i_to i_readMany (0 : Int32) i_size (3 : Int32)) _)) (fun u H locs hp hP hD hS => ?_)
                              obtain rfl := hp
                              have hP : va_P D vwCl [(a_chosen, .inl (cI, 8, .inl (upd f_1 3 3))), (a_bestChosen, .inl (cI, 8, .inl g_2)), (m0, .inr (9, [.int i_thrown, .int i_told, .ref a_row, .ref a_tape, .int i_taped, .int i_at, .int i_to, .int 0, .ref a_number, .ref a_read, .int i_readMany, .ref a_readBits, .ref a_stands, .ref a_parted, .ref a_bitsWere, .ref a_stood, .ref a_chosen, .ref a_bestChosen, .int 0, .ref a_often, .ref a_sorted, .int i_size, .ref a_risen, .ref a_risenWays]))] H := hP
                              have hD : va_D A [(a_chosen, .inl (cI, 8, .inl (upd f_1 3 3))), (a_bestChosen, .inl (cI, 8, .inl g_2)), (m0, .inr (9, [.int i_thrown, .int i_told, .ref a_row, .ref a_tape, .int i_taped, .int i_at, .int i_to, .int 0, .ref a_number, .ref a_read, .int i_readMany, .ref a_readBits, .ref a_stands, .ref a_parted, .ref a_bitsWere, .ref a_stood, .ref a_chosen, .ref a_bestChosen, .int 0, .ref a_often, .ref a_sorted, .int i_size, .ref a_risen, .ref a_risenWays]))] := hD
                              refine lv_aload_n hx hb dX9_triesBits_135 rfl (lv_at hl 3 rfl) ?_
                              refine lv_iload_n hx hb dX9_triesBits_136 rfl (lv_at hl 4 rfl) ?_
                              refine lv_iconst (v := 1) hx hb dX9_triesBits_137 (by decide +kernel) ?_
                              refine lv_iadd hx hb dX9_triesBits_138 ?_
                              refine my_eqi (y := 4) (by decide +kernel) ?_
                              refine lv_iload_n hx hb dX9_triesBits_139 rfl (lv_at hl 5 rfl) ?_
                              refine lv_iconst (v := 1) hx hb dX9_triesBits_140 (by decide +kernel) ?_
                              refine lv_iload hx hb dX9_triesBits_141 (lv_at hl 1 rfl) ?_
                              refine lv_ishl hx hb dX9_triesBits_143 ?_
                              refine my_eqi (y := 8) (by decide +kernel) ?_
                              refine lv_ior hx hb dX9_triesBits_144 ?_
                              refine my_eqi (y := 232) (by decide +kernel) ?_
                              refine lv_iload_n hx hb dX9_triesBits_145 rfl (lv_at hl 6 rfl) ?_
                              refine lv_iload hx hb dX9_triesBits_146 (lv_at hl 0 rfl) ?_
                              refine lv_iadd hx hb dX9_triesBits_148 ?_
                              refine my_eqi (y := 0) (by decide +kernel) ?_
                              refine my_goV (wr := [(a_chosen, .inl (cI, 8, .inl (upd f_1 3 3))), (a_bestChosen, .inl (cI, 8, .inl g_2))]) hP hD hS hA [2] [0, 1] rfl rfl (by decide) (by decide) (my_cV (As := [.int 4, .int 232, .int 0]) (rest := []) (ci := 9) (wc := [(m0, .inr (9, [.int i_thrown, .int i_told, .ref a_row, .ref a_tape, .int i_taped, .int i_at, .int i_to, .int 0, .ref a_number, .ref a_read, .int i_readMany, .ref a_readBits, .ref a_stands, .ref a_parted, .ref a_bitsWere, .ref a_stood, .ref a_chosen, .ref a_bestChosen, .int 0, .ref a_often, .ref a_sorted, .int i_size, .ref a_risen, .ref a_risenWays]))]) ⟨hx, hb, hml, hown, hts⟩ (cwV 3 hts gX9_triesBits_X9_triesBits rfl rfl rfl (by decide +kernel) ⟨Nat.le_of_ble_eq_true rfl, Nat.le_of_ble_eq_true rfl⟩) hN hK hP hD [2] rfl (by decide) rfl 2 rfl rfl rfl rfl hl.1 rfl (Nat.le_of_ble_eq_true rfl) dX9_triesBits_149 ⟨Nat.le_of_ble_eq_true rfl, Nat.le_of_ble_eq_true rfl⟩  ((kq_X9_triesBits l D cI cJ m0 a_row a_tape a_number a_read a_readBits a_stands a_parted a_bitsWere a_stood a_chosen a_bestChosen a_often a_sorted a_risen a_risenWays i_thrown i_told i_taped i_at i_to i_readMany i_size (4 : Int32) (232 : Int32)) _)) (fun u H locs hp hP hD hS => ?_)
                              obtain rfl := hp
                              have hP : va_P D vwCl [(a_chosen, .inl (cI, 8, .inl (upd f_1 3 3))), (a_bestChosen, .inl (cI, 8, .inl g_2)), (m0, .inr (9, [.int i_thrown, .int i_told, .ref a_row, .ref a_tape, .int i_taped, .int i_at, .int i_to, .int 0, .ref a_number, .ref a_read, .int i_readMany, .ref a_readBits, .ref a_stands, .ref a_parted, .ref a_bitsWere, .ref a_stood, .ref a_chosen, .ref a_bestChosen, .int 0, .ref a_often, .ref a_sorted, .int i_size, .ref a_risen, .ref a_risenWays]))] H := hP
                              have hD : va_D A [(a_chosen, .inl (cI, 8, .inl (upd f_1 3 3))), (a_bestChosen, .inl (cI, 8, .inl g_2)), (m0, .inr (9, [.int i_thrown, .int i_told, .ref a_row, .ref a_tape, .int i_taped, .int i_at, .int i_to, .int 0, .ref a_number, .ref a_read, .int i_readMany, .ref a_readBits, .ref a_stands, .ref a_parted, .ref a_bitsWere, .ref a_stood, .ref a_chosen, .ref a_bestChosen, .int 0, .ref a_often, .ref a_sorted, .int i_size, .ref a_risen, .ref a_risenWays]))] := hD
                              refine lv_iconst (v := 0) hx hb dX9_triesBits_152 (by decide +kernel) ?_
                              refine lv_istore (lv' := [(6, .int 0), (5, .int 0), (4, .int 3), (0, .ref m0), (1, .int 3), (2, .int 224), (3, .int 0)]) hx hb dX9_triesBits_153 hl (by decide) rfl (fun ls hl => ?_)
                              refine lv_iload hx hb dX9_triesBits_155 (lv_at hl 0 rfl) ?_
                              refine lv_aload_n hx hb dX9_triesBits_157 rfl (lv_at hl 3 rfl) ?_
                              refine va_get (ci := 9) (v := .int 0) (C := RX9) (T := TX9) (N := 24) hx hb hts hi9 hown hK hP 2 rfl rfl 7 (by decide) fl88 (fun _ h9 => h9) rfl dX9_triesBits_158 ?_
                              refine lv_icmp_ge (tgt := 189) hx hb dX9_triesBits_161 (by decide) (fun c161 => ?_) (fun c161 => ?_)
                              ·
                                refine lv_iinc (v := 2) (lv' := [(4, .int 2), (6, .int 0), (5, .int 0), (0, .ref m0), (1, .int 3), (2, .int 224), (3, .int 0)]) hx hb dX9_triesBits_189 hl (k := 2) rfl (by decide +kernel) (by decide) rfl (fun ls hl => ?_)
                                refine lv_goto (tgt := 99) hx hb dX9_triesBits_192 (by decide) ?_
                                refine lv_iload hx hb dX9_triesBits_99 (lv_at hl 0 rfl) ?_
                                refine lv_if_lt (tgt := 195) hx hb dX9_triesBits_101 (by decide) (fun c101 => ?_) (fun c101 => ?_)
                                ·
                                  exact absurd c101 (by decide +kernel)
                                ·
                                  refine lv_iload_n hx hb dX9_triesBits_104 rfl (lv_at hl 5 rfl) ?_
                                  refine lv_iload hx hb dX9_triesBits_105 (lv_at hl 0 rfl) ?_
                                  refine lv_ishr hx hb dX9_triesBits_107 ?_
                                  refine my_eqi (y := 56) (by decide +kernel) ?_
                                  refine lv_iconst (v := 1) hx hb dX9_triesBits_108 (by decide +kernel) ?_
                                  refine lv_iand hx hb dX9_triesBits_109 ?_
                                  refine my_eqi (y := 0) (by decide +kernel) ?_
                                  refine lv_if_ne (tgt := 189) hx hb dX9_triesBits_110 (by decide) (fun c110 => ?_) (fun c110 => ?_)
                                  ·
                                    exact absurd c110 (by decide +kernel)
                                  ·
                                    refine lv_aload_n hx hb dX9_triesBits_113 rfl (lv_at hl 3 rfl) ?_
                                    refine va_get (ci := 9) (v := .ref a_chosen) (C := RX9) (T := TX9) (N := 24) hx hb hts hi9 hown hK hP 2 rfl rfl 16 (by decide) fl70 (fun _ h9 => h9) rfl dX9_triesBits_114 ?_
                                    refine lv_iload_n hx hb dX9_triesBits_117 rfl (lv_at hl 4 rfl) ?_
                                    refine lv_iload hx hb dX9_triesBits_118 (lv_at hl 0 rfl) ?_
                                    refine va_iast hx hb hK hP hD hS 0 0 rfl rfl (vp_in_nI (n := 3) (by omega) (by omega)) dX9_triesBits_120 (fun H locs hP hD hS => ?_)
                                    have eU : upd (upd f_1 3 3) (3 : Int32).toNatClampNeg 2 = upd (upd f_1 3 3) 3 2 := by rw [show (3 : Int32).toNatClampNeg = 3 from by decide +kernel]
                                    rw [eU] at hP hD
                                    have hP : va_P D vwCl [(a_chosen, .inl (cI, 8, .inl (upd (upd f_1 3 3) 3 2))), (a_bestChosen, .inl (cI, 8, .inl g_2)), (m0, .inr (9, [.int i_thrown, .int i_told, .ref a_row, .ref a_tape, .int i_taped, .int i_at, .int i_to, .int 0, .ref a_number, .ref a_read, .int i_readMany, .ref a_readBits, .ref a_stands, .ref a_parted, .ref a_bitsWere, .ref a_stood, .ref a_chosen, .ref a_bestChosen, .int 0, .ref a_often, .ref a_sorted, .int i_size, .ref a_risen, .ref a_risenWays]))] H := hP
                                    have hD : va_D A [(a_chosen, .inl (cI, 8, .inl (upd (upd f_1 3 3) 3 2))), (a_bestChosen, .inl (cI, 8, .inl g_2)), (m0, .inr (9, [.int i_thrown, .int i_told, .ref a_row, .ref a_tape, .int i_taped, .int i_at, .int i_to, .int 0, .ref a_number, .ref a_read, .int i_readMany, .ref a_readBits, .ref a_stands, .ref a_parted, .ref a_bitsWere, .ref a_stood, .ref a_chosen, .ref a_bestChosen, .int 0, .ref a_often, .ref a_sorted, .int i_size, .ref a_risen, .ref a_risenWays]))] := hD
                                    refine lv_aload_n hx hb dX9_triesBits_121 rfl (lv_at hl 3 rfl) ?_
                                    refine lv_iload hx hb dX9_triesBits_122 (lv_at hl 0 rfl) ?_
                                    refine my_gpI (my_pV (As := [.int 2]) (rest := []) (ci := 9) ⟨hx, hb, hml, hown, hts⟩ (cwV 1 hts gX9_triesBits_X9_runsOf rfl rfl rfl (by decide +kernel) ⟨Nat.le_of_ble_eq_true rfl, Nat.le_of_ble_eq_true rfl⟩) hN hK hP [2] rfl 2 rfl rfl rfl rfl hl.1 rfl (Nat.le_of_ble_eq_true rfl) dX9_triesBits_124 ⟨Nat.le_of_ble_eq_true rfl, Nat.le_of_ble_eq_true rfl⟩  (k0_X9_runsOf l D cI cJ m0 a_row a_tape a_number a_read a_readBits a_stands a_parted a_bitsWere a_stood a_chosen a_bestChosen a_often a_sorted a_risen a_risenWays i_thrown i_told i_taped i_at i_to i_readMany (0 : Int32) i_size (2 : Int32))) (fun r hp => ?_)
                                    obtain rfl := hp
                                    refine lv_istore (lv' := [(5, .int 0), (4, .int 2), (6, .int 0), (0, .ref m0), (1, .int 3), (2, .int 224), (3, .int 0)]) hx hb dX9_triesBits_127 hl (by decide) rfl (fun ls hl => ?_)
                                    refine lv_aload_n hx hb dX9_triesBits_129 rfl (lv_at hl 3 rfl) ?_
                                    refine lv_iload hx hb dX9_triesBits_130 (lv_at hl 1 rfl) ?_
                                    refine my_goV (wr := [(a_chosen, .inl (cI, 8, .inl (upd (upd f_1 3 3) 3 2))), (a_bestChosen, .inl (cI, 8, .inl g_2))]) hP hD hS hA [2] [0, 1] rfl rfl (by decide) (by decide) (my_cV (As := [.int 2]) (rest := []) (ci := 9) (wc := [(m0, .inr (9, [.int i_thrown, .int i_told, .ref a_row, .ref a_tape, .int i_taped, .int i_at, .int i_to, .int 0, .ref a_number, .ref a_read, .int i_readMany, .ref a_readBits, .ref a_stands, .ref a_parted, .ref a_bitsWere, .ref a_stood, .ref a_chosen, .ref a_bestChosen, .int 0, .ref a_often, .ref a_sorted, .int i_size, .ref a_risen, .ref a_risenWays]))]) ⟨hx, hb, hml, hown, hts⟩ (cwV 1 hts gX9_triesBits_X9_parts rfl rfl rfl (by decide +kernel) ⟨Nat.le_of_ble_eq_true rfl, Nat.le_of_ble_eq_true rfl⟩) hN hK hP hD [2] rfl (by decide) rfl 2 rfl rfl rfl rfl hl.1 rfl (Nat.le_of_ble_eq_true rfl) dX9_triesBits_132 ⟨Nat.le_of_ble_eq_true rfl, Nat.le_of_ble_eq_true rfl⟩  ((k0_X9_parts l D cI cJ m0 a_row a_tape a_number a_read a_readBits a_stands a_parted a_bitsWere a_stood a_chosen a_bestChosen a_often a_sorted a_risen a_risenWays i_thrown i_told i_taped i_at i_to i_readMany (0 : Int32) i_size (2 : Int32)) _)) (fun u H locs hp hP hD hS => ?_)
                                    obtain rfl := hp
                                    have hP : va_P D vwCl [(a_chosen, .inl (cI, 8, .inl (upd (upd f_1 3 3) 3 2))), (a_bestChosen, .inl (cI, 8, .inl g_2)), (m0, .inr (9, [.int i_thrown, .int i_told, .ref a_row, .ref a_tape, .int i_taped, .int i_at, .int i_to, .int 0, .ref a_number, .ref a_read, .int i_readMany, .ref a_readBits, .ref a_stands, .ref a_parted, .ref a_bitsWere, .ref a_stood, .ref a_chosen, .ref a_bestChosen, .int 0, .ref a_often, .ref a_sorted, .int i_size, .ref a_risen, .ref a_risenWays]))] H := hP
                                    have hD : va_D A [(a_chosen, .inl (cI, 8, .inl (upd (upd f_1 3 3) 3 2))), (a_bestChosen, .inl (cI, 8, .inl g_2)), (m0, .inr (9, [.int i_thrown, .int i_told, .ref a_row, .ref a_tape, .int i_taped, .int i_at, .int i_to, .int 0, .ref a_number, .ref a_read, .int i_readMany, .ref a_readBits, .ref a_stands, .ref a_parted, .ref a_bitsWere, .ref a_stood, .ref a_chosen, .ref a_bestChosen, .int 0, .ref a_often, .ref a_sorted, .int i_size, .ref a_risen, .ref a_risenWays]))] := hD
                                    refine lv_aload_n hx hb dX9_triesBits_135 rfl (lv_at hl 3 rfl) ?_
                                    refine lv_iload_n hx hb dX9_triesBits_136 rfl (lv_at hl 4 rfl) ?_
                                    refine lv_iconst (v := 1) hx hb dX9_triesBits_137 (by decide +kernel) ?_
                                    refine lv_iadd hx hb dX9_triesBits_138 ?_
                                    refine my_eqi (y := 4) (by decide +kernel) ?_
                                    refine lv_iload_n hx hb dX9_triesBits_139 rfl (lv_at hl 5 rfl) ?_
                                    refine lv_iconst (v := 1) hx hb dX9_triesBits_140 (by decide +kernel) ?_
                                    refine lv_iload hx hb dX9_triesBits_141 (lv_at hl 1 rfl) ?_
                                    refine lv_ishl hx hb dX9_triesBits_143 ?_
                                    refine my_eqi (y := 4) (by decide +kernel) ?_
                                    refine lv_ior hx hb dX9_triesBits_144 ?_
                                    refine my_eqi (y := 228) (by decide +kernel) ?_
                                    refine lv_iload_n hx hb dX9_triesBits_145 rfl (lv_at hl 6 rfl) ?_
                                    refine lv_iload hx hb dX9_triesBits_146 (lv_at hl 0 rfl) ?_
                                    refine lv_iadd hx hb dX9_triesBits_148 ?_
                                    refine my_eqi (y := 0) (by decide +kernel) ?_
                                    refine my_goV (wr := [(a_chosen, .inl (cI, 8, .inl (upd (upd f_1 3 3) 3 2))), (a_bestChosen, .inl (cI, 8, .inl g_2))]) hP hD hS hA [2] [0, 1] rfl rfl (by decide) (by decide) (my_cV (As := [.int 4, .int 228, .int 0]) (rest := []) (ci := 9) (wc := [(m0, .inr (9, [.int i_thrown, .int i_told, .ref a_row, .ref a_tape, .int i_taped, .int i_at, .int i_to, .int 0, .ref a_number, .ref a_read, .int i_readMany, .ref a_readBits, .ref a_stands, .ref a_parted, .ref a_bitsWere, .ref a_stood, .ref a_chosen, .ref a_bestChosen, .int 0, .ref a_often, .ref a_sorted, .int i_size, .ref a_risen, .ref a_risenWays]))]) ⟨hx, hb, hml, hown, hts⟩ (cwV 3 hts gX9_triesBits_X9_triesBits rfl rfl rfl (by decide +kernel) ⟨Nat.le_of_ble_eq_true rfl, Nat.le_of_ble_eq_true rfl⟩) hN hK hP hD [2] rfl (by decide) rfl 2 rfl rfl rfl rfl hl.1 rfl (Nat.le_of_ble_eq_true rfl) dX9_triesBits_149 ⟨Nat.le_of_ble_eq_true rfl, Nat.le_of_ble_eq_true rfl⟩  ((kq_X9_triesBits l D cI cJ m0 a_row a_tape a_number a_read a_readBits a_stands a_parted a_bitsWere a_stood a_chosen a_bestChosen a_often a_sorted a_risen a_risenWays i_thrown i_told i_taped i_at i_to i_readMany i_size (4 : Int32) (228 : Int32)) _)) (fun u H locs hp hP hD hS => ?_)
                                    obtain rfl := hp
                                    have hP : va_P D vwCl [(a_chosen, .inl (cI, 8, .inl (upd (upd f_1 3 3) 3 2))), (a_bestChosen, .inl (cI, 8, .inl g_2)), (m0, .inr (9, [.int i_thrown, .int i_told, .ref a_row, .ref a_tape, .int i_taped, .int i_at, .int i_to, .int 0, .ref a_number, .ref a_read, .int i_readMany, .ref a_readBits, .ref a_stands, .ref a_parted, .ref a_bitsWere, .ref a_stood, .ref a_chosen, .ref a_bestChosen, .int 0, .ref a_often, .ref a_sorted, .int i_size, .ref a_risen, .ref a_risenWays]))] H := hP
                                    have hD : va_D A [(a_chosen, .inl (cI, 8, .inl (upd (upd f_1 3 3) 3 2))), (a_bestChosen, .inl (cI, 8, .inl g_2)), (m0, .inr (9, [.int i_thrown, .int i_told, .ref a_row, .ref a_tape, .int i_taped, .int i_at, .int i_to, .int 0, .ref a_number, .ref a_read, .int i_readMany, .ref a_readBits, .ref a_stands, .ref a_parted, .ref a_bitsWere, .ref a_stood, .ref a_chosen, .ref a_bestChosen, .int 0, .ref a_often, .ref a_sorted, .int i_size, .ref a_risen, .ref a_risenWays]))] := hD
                                    refine lv_iconst (v := 0) hx hb dX9_triesBits_152 (by decide +kernel) ?_
                                    refine lv_istore (lv' := [(6, .int 0), (5, .int 0), (4, .int 2), (0, .ref m0), (1, .int 3), (2, .int 224), (3, .int 0)]) hx hb dX9_triesBits_153 hl (by decide) rfl (fun ls hl => ?_)
                                    refine lv_iload hx hb dX9_triesBits_155 (lv_at hl 0 rfl) ?_
                                    refine lv_aload_n hx hb dX9_triesBits_157 rfl (lv_at hl 3 rfl) ?_
                                    refine va_get (ci := 9) (v := .int 0) (C := RX9) (T := TX9) (N := 24) hx hb hts hi9 hown hK hP 2 rfl rfl 7 (by decide) fl88 (fun _ h9 => h9) rfl dX9_triesBits_158 ?_
                                    refine lv_icmp_ge (tgt := 189) hx hb dX9_triesBits_161 (by decide) (fun c161 => ?_) (fun c161 => ?_)
                                    ·
                                      refine lv_iinc (v := 1) (lv' := [(4, .int 1), (6, .int 0), (5, .int 0), (0, .ref m0), (1, .int 3), (2, .int 224), (3, .int 0)]) hx hb dX9_triesBits_189 hl (k := 2) rfl (by decide +kernel) (by decide) rfl (fun ls hl => ?_)
                                      refine lv_goto (tgt := 99) hx hb dX9_triesBits_192 (by decide) ?_
                                      refine lv_iload hx hb dX9_triesBits_99 (lv_at hl 0 rfl) ?_
                                      refine lv_if_lt (tgt := 195) hx hb dX9_triesBits_101 (by decide) (fun c101 => ?_) (fun c101 => ?_)
                                      ·
                                        exact absurd c101 (by decide +kernel)
                                      ·
                                        refine lv_iload_n hx hb dX9_triesBits_104 rfl (lv_at hl 5 rfl) ?_
                                        refine lv_iload hx hb dX9_triesBits_105 (lv_at hl 0 rfl) ?_
                                        refine lv_ishr hx hb dX9_triesBits_107 ?_
                                        refine my_eqi (y := 112) (by decide +kernel) ?_
                                        refine lv_iconst (v := 1) hx hb dX9_triesBits_108 (by decide +kernel) ?_
                                        refine lv_iand hx hb dX9_triesBits_109 ?_
                                        refine my_eqi (y := 0) (by decide +kernel) ?_
                                        refine lv_if_ne (tgt := 189) hx hb dX9_triesBits_110 (by decide) (fun c110 => ?_) (fun c110 => ?_)
                                        ·
                                          exact absurd c110 (by decide +kernel)
                                        ·
                                          refine lv_aload_n hx hb dX9_triesBits_113 rfl (lv_at hl 3 rfl) ?_
                                          refine va_get (ci := 9) (v := .ref a_chosen) (C := RX9) (T := TX9) (N := 24) hx hb hts hi9 hown hK hP 2 rfl rfl 16 (by decide) fl70 (fun _ h9 => h9) rfl dX9_triesBits_114 ?_
                                          refine lv_iload_n hx hb dX9_triesBits_117 rfl (lv_at hl 4 rfl) ?_
                                          refine lv_iload hx hb dX9_triesBits_118 (lv_at hl 0 rfl) ?_
                                          refine va_iast hx hb hK hP hD hS 0 0 rfl rfl (vp_in_nI (n := 3) (by omega) (by omega)) dX9_triesBits_120 (fun H locs hP hD hS => ?_)
                                          have eU : upd (upd (upd f_1 3 3) 3 2) (3 : Int32).toNatClampNeg 1 = upd (upd (upd f_1 3 3) 3 2) 3 1 := by rw [show (3 : Int32).toNatClampNeg = 3 from by decide +kernel]
                                          rw [eU] at hP hD
                                          have hP : va_P D vwCl [(a_chosen, .inl (cI, 8, .inl (upd (upd (upd f_1 3 3) 3 2) 3 1))), (a_bestChosen, .inl (cI, 8, .inl g_2)), (m0, .inr (9, [.int i_thrown, .int i_told, .ref a_row, .ref a_tape, .int i_taped, .int i_at, .int i_to, .int 0, .ref a_number, .ref a_read, .int i_readMany, .ref a_readBits, .ref a_stands, .ref a_parted, .ref a_bitsWere, .ref a_stood, .ref a_chosen, .ref a_bestChosen, .int 0, .ref a_often, .ref a_sorted, .int i_size, .ref a_risen, .ref a_risenWays]))] H := hP
                                          have hD : va_D A [(a_chosen, .inl (cI, 8, .inl (upd (upd (upd f_1 3 3) 3 2) 3 1))), (a_bestChosen, .inl (cI, 8, .inl g_2)), (m0, .inr (9, [.int i_thrown, .int i_told, .ref a_row, .ref a_tape, .int i_taped, .int i_at, .int i_to, .int 0, .ref a_number, .ref a_read, .int i_readMany, .ref a_readBits, .ref a_stands, .ref a_parted, .ref a_bitsWere, .ref a_stood, .ref a_chosen, .ref a_bestChosen, .int 0, .ref a_often, .ref a_sorted, .int i_size, .ref a_risen, .ref a_risenWays]))] := hD
                                          refine lv_aload_n hx hb dX9_triesBits_121 rfl (lv_at hl 3 rfl) ?_
                                          refine lv_iload hx hb dX9_triesBits_122 (lv_at hl 0 rfl) ?_
                                          refine my_gpI (my_pV (As := [.int 1]) (rest := []) (ci := 9) ⟨hx, hb, hml, hown, hts⟩ (cwV 1 hts gX9_triesBits_X9_runsOf rfl rfl rfl (by decide +kernel) ⟨Nat.le_of_ble_eq_true rfl, Nat.le_of_ble_eq_true rfl⟩) hN hK hP [2] rfl 2 rfl rfl rfl rfl hl.1 rfl (Nat.le_of_ble_eq_true rfl) dX9_triesBits_124 ⟨Nat.le_of_ble_eq_true rfl, Nat.le_of_ble_eq_true rfl⟩  (k0_X9_runsOf l D cI cJ m0 a_row a_tape a_number a_read a_readBits a_stands a_parted a_bitsWere a_stood a_chosen a_bestChosen a_often a_sorted a_risen a_risenWays i_thrown i_told i_taped i_at i_to i_readMany (0 : Int32) i_size (1 : Int32))) (fun r hp => ?_)
                                          obtain rfl := hp
                                          refine lv_istore (lv' := [(5, .int 0), (4, .int 1), (6, .int 0), (0, .ref m0), (1, .int 3), (2, .int 224), (3, .int 0)]) hx hb dX9_triesBits_127 hl (by decide) rfl (fun ls hl => ?_)
                                          refine lv_aload_n hx hb dX9_triesBits_129 rfl (lv_at hl 3 rfl) ?_
                                          refine lv_iload hx hb dX9_triesBits_130 (lv_at hl 1 rfl) ?_
                                          refine my_goV (wr := [(a_chosen, .inl (cI, 8, .inl (upd (upd (upd f_1 3 3) 3 2) 3 1))), (a_bestChosen, .inl (cI, 8, .inl g_2))]) hP hD hS hA [2] [0, 1] rfl rfl (by decide) (by decide) (my_cV (As := [.int 1]) (rest := []) (ci := 9) (wc := [(m0, .inr (9, [.int i_thrown, .int i_told, .ref a_row, .ref a_tape, .int i_taped, .int i_at, .int i_to, .int 0, .ref a_number, .ref a_read, .int i_readMany, .ref a_readBits, .ref a_stands, .ref a_parted, .ref a_bitsWere, .ref a_stood, .ref a_chosen, .ref a_bestChosen, .int 0, .ref a_often, .ref a_sorted, .int i_size, .ref a_risen, .ref a_risenWays]))]) ⟨hx, hb, hml, hown, hts⟩ (cwV 1 hts gX9_triesBits_X9_parts rfl rfl rfl (by decide +kernel) ⟨Nat.le_of_ble_eq_true rfl, Nat.le_of_ble_eq_true rfl⟩) hN hK hP hD [2] rfl (by decide) rfl 2 rfl rfl rfl rfl hl.1 rfl (Nat.le_of_ble_eq_true rfl) dX9_triesBits_132 ⟨Nat.le_of_ble_eq_true rfl, Nat.le_of_ble_eq_true rfl⟩  ((k0_X9_parts l D cI cJ m0 a_row a_tape a_number a_read a_readBits a_stands a_parted a_bitsWere a_stood a_chosen a_bestChosen a_often a_sorted a_risen a_risenWays i_thrown i_told i_taped i_at i_to i_readMany (0 : Int32) i_size (1 : Int32)) _)) (fun u H locs hp hP hD hS => ?_)
                                          obtain rfl := hp
                                          have hP : va_P D vwCl [(a_chosen, .inl (cI, 8, .inl (upd (upd (upd f_1 3 3) 3 2) 3 1))), (a_bestChosen, .inl (cI, 8, .inl g_2)), (m0, .inr (9, [.int i_thrown, .int i_told, .ref a_row, .ref a_tape, .int i_taped, .int i_at, .int i_to, .int 0, .ref a_number, .ref a_read, .int i_readMany, .ref a_readBits, .ref a_stands, .ref a_parted, .ref a_bitsWere, .ref a_stood, .ref a_chosen, .ref a_bestChosen, .int 0, .ref a_often, .ref a_sorted, .int i_size, .ref a_risen, .ref a_risenWays]))] H := hP
                                          have hD : va_D A [(a_chosen, .inl (cI, 8, .inl (upd (upd (upd f_1 3 3) 3 2) 3 1))), (a_bestChosen, .inl (cI, 8, .inl g_2)), (m0, .inr (9, [.int i_thrown, .int i_told, .ref a_row, .ref a_tape, .int i_taped, .int i_at, .int i_to, .int 0, .ref a_number, .ref a_read, .int i_readMany, .ref a_readBits, .ref a_stands, .ref a_parted, .ref a_bitsWere, .ref a_stood, .ref a_chosen, .ref a_bestChosen, .int 0, .ref a_often, .ref a_sorted, .int i_size, .ref a_risen, .ref a_risenWays]))] := hD
                                          refine lv_aload_n hx hb dX9_triesBits_135 rfl (lv_at hl 3 rfl) ?_
                                          refine lv_iload_n hx hb dX9_triesBits_136 rfl (lv_at hl 4 rfl) ?_
                                          refine lv_iconst (v := 1) hx hb dX9_triesBits_137 (by decide +kernel) ?_
                                          refine lv_iadd hx hb dX9_triesBits_138 ?_
                                          refine my_eqi (y := 4) (by decide +kernel) ?_
                                          refine lv_iload_n hx hb dX9_triesBits_139 rfl (lv_at hl 5 rfl) ?_
                                          refine lv_iconst (v := 1) hx hb dX9_triesBits_140 (by decide +kernel) ?_
                                          refine lv_iload hx hb dX9_triesBits_141 (lv_at hl 1 rfl) ?_
                                          refine lv_ishl hx hb dX9_triesBits_143 ?_
                                          refine my_eqi (y := 2) (by decide +kernel) ?_
                                          refine lv_ior hx hb dX9_triesBits_144 ?_
                                          refine my_eqi (y := 226) (by decide +kernel) ?_
                                          refine lv_iload_n hx hb dX9_triesBits_145 rfl (lv_at hl 6 rfl) ?_
                                          refine lv_iload hx hb dX9_triesBits_146 (lv_at hl 0 rfl) ?_
                                          refine lv_iadd hx hb dX9_triesBits_148 ?_
                                          refine my_eqi (y := 0) (by decide +kernel) ?_
                                          refine my_goV (wr := [(a_chosen, .inl (cI, 8, .inl (upd (upd (upd f_1 3 3) 3 2) 3 1))), (a_bestChosen, .inl (cI, 8, .inl g_2))]) hP hD hS hA [2] [0, 1] rfl rfl (by decide) (by decide) (my_cV (As := [.int 4, .int 226, .int 0]) (rest := []) (ci := 9) (wc := [(m0, .inr (9, [.int i_thrown, .int i_told, .ref a_row, .ref a_tape, .int i_taped, .int i_at, .int i_to, .int 0, .ref a_number, .ref a_read, .int i_readMany, .ref a_readBits, .ref a_stands, .ref a_parted, .ref a_bitsWere, .ref a_stood, .ref a_chosen, .ref a_bestChosen, .int 0, .ref a_often, .ref a_sorted, .int i_size, .ref a_risen, .ref a_risenWays]))]) ⟨hx, hb, hml, hown, hts⟩ (cwV 3 hts gX9_triesBits_X9_triesBits rfl rfl rfl (by decide +kernel) ⟨Nat.le_of_ble_eq_true rfl, Nat.le_of_ble_eq_true rfl⟩) hN hK hP hD [2] rfl (by decide) rfl 2 rfl rfl rfl rfl hl.1 rfl (Nat.le_of_ble_eq_true rfl) dX9_triesBits_149 ⟨Nat.le_of_ble_eq_true rfl, Nat.le_of_ble_eq_true rfl⟩  ((kq_X9_triesBits l D cI cJ m0 a_row a_tape a_number a_read a_readBits a_stands a_parted a_bitsWere a_stood a_chosen a_bestChosen a_often a_sorted a_risen a_risenWays i_thrown i_told i_taped i_at i_to i_readMany i_size (4 : Int32) (226 : Int32)) _)) (fun u H locs hp hP hD hS => ?_)
                                          obtain rfl := hp
                                          have hP : va_P D vwCl [(a_chosen, .inl (cI, 8, .inl (upd (upd (upd f_1 3 3) 3 2) 3 1))), (a_bestChosen, .inl (cI, 8, .inl g_2)), (m0, .inr (9, [.int i_thrown, .int i_told, .ref a_row, .ref a_tape, .int i_taped, .int i_at, .int i_to, .int 0, .ref a_number, .ref a_read, .int i_readMany, .ref a_readBits, .ref a_stands, .ref a_parted, .ref a_bitsWere, .ref a_stood, .ref a_chosen, .ref a_bestChosen, .int 0, .ref a_often, .ref a_sorted, .int i_size, .ref a_risen, .ref a_risenWays]))] H := hP
                                          have hD : va_D A [(a_chosen, .inl (cI, 8, .inl (upd (upd (upd f_1 3 3) 3 2) 3 1))), (a_bestChosen, .inl (cI, 8, .inl g_2)), (m0, .inr (9, [.int i_thrown, .int i_told, .ref a_row, .ref a_tape, .int i_taped, .int i_at, .int i_to, .int 0, .ref a_number, .ref a_read, .int i_readMany, .ref a_readBits, .ref a_stands, .ref a_parted, .ref a_bitsWere, .ref a_stood, .ref a_chosen, .ref a_bestChosen, .int 0, .ref a_often, .ref a_sorted, .int i_size, .ref a_risen, .ref a_risenWays]))] := hD
                                          refine lv_iconst (v := 0) hx hb dX9_triesBits_152 (by decide +kernel) ?_
                                          refine lv_istore (lv' := [(6, .int 0), (5, .int 0), (4, .int 1), (0, .ref m0), (1, .int 3), (2, .int 224), (3, .int 0)]) hx hb dX9_triesBits_153 hl (by decide) rfl (fun ls hl => ?_)
                                          refine lv_iload hx hb dX9_triesBits_155 (lv_at hl 0 rfl) ?_
                                          refine lv_aload_n hx hb dX9_triesBits_157 rfl (lv_at hl 3 rfl) ?_
                                          refine va_get (ci := 9) (v := .int 0) (C := RX9) (T := TX9) (N := 24) hx hb hts hi9 hown hK hP 2 rfl rfl 7 (by decide) fl88 (fun _ h9 => h9) rfl dX9_triesBits_158 ?_
                                          refine lv_icmp_ge (tgt := 189) hx hb dX9_triesBits_161 (by decide) (fun c161 => ?_) (fun c161 => ?_)
                                          ·
                                            refine lv_iinc (v := 0) (lv' := [(4, .int 0), (6, .int 0), (5, .int 0), (0, .ref m0), (1, .int 3), (2, .int 224), (3, .int 0)]) hx hb dX9_triesBits_189 hl (k := 2) rfl (by decide +kernel) (by decide) rfl (fun ls hl => ?_)
                                            refine lv_goto (tgt := 99) hx hb dX9_triesBits_192 (by decide) ?_
                                            refine lv_iload hx hb dX9_triesBits_99 (lv_at hl 0 rfl) ?_
                                            refine lv_if_lt (tgt := 195) hx hb dX9_triesBits_101 (by decide) (fun c101 => ?_) (fun c101 => ?_)
                                            ·
                                              exact absurd c101 (by decide +kernel)
                                            ·
                                              refine lv_iload_n hx hb dX9_triesBits_104 rfl (lv_at hl 5 rfl) ?_
                                              refine lv_iload hx hb dX9_triesBits_105 (lv_at hl 0 rfl) ?_
                                              refine lv_ishr hx hb dX9_triesBits_107 ?_
                                              refine my_eqi (y := 224) (by decide +kernel) ?_
                                              refine lv_iconst (v := 1) hx hb dX9_triesBits_108 (by decide +kernel) ?_
                                              refine lv_iand hx hb dX9_triesBits_109 ?_
                                              refine my_eqi (y := 0) (by decide +kernel) ?_
                                              refine lv_if_ne (tgt := 189) hx hb dX9_triesBits_110 (by decide) (fun c110 => ?_) (fun c110 => ?_)
                                              ·
                                                exact absurd c110 (by decide +kernel)
                                              ·
                                                refine lv_aload_n hx hb dX9_triesBits_113 rfl (lv_at hl 3 rfl) ?_
                                                refine va_get (ci := 9) (v := .ref a_chosen) (C := RX9) (T := TX9) (N := 24) hx hb hts hi9 hown hK hP 2 rfl rfl 16 (by decide) fl70 (fun _ h9 => h9) rfl dX9_triesBits_114 ?_
                                                refine lv_iload_n hx hb dX9_triesBits_117 rfl (lv_at hl 4 rfl) ?_
                                                refine lv_iload hx hb dX9_triesBits_118 (lv_at hl 0 rfl) ?_
                                                refine va_iast hx hb hK hP hD hS 0 0 rfl rfl (vp_in_nI (n := 3) (by omega) (by omega)) dX9_triesBits_120 (fun H locs hP hD hS => ?_)
                                                have eU : upd (upd (upd (upd f_1 3 3) 3 2) 3 1) (3 : Int32).toNatClampNeg 0 = upd (upd (upd (upd f_1 3 3) 3 2) 3 1) 3 0 := by rw [show (3 : Int32).toNatClampNeg = 3 from by decide +kernel]
                                                rw [eU] at hP hD
                                                have hP : va_P D vwCl [(a_chosen, .inl (cI, 8, .inl (upd (upd (upd (upd f_1 3 3) 3 2) 3 1) 3 0))), (a_bestChosen, .inl (cI, 8, .inl g_2)), (m0, .inr (9, [.int i_thrown, .int i_told, .ref a_row, .ref a_tape, .int i_taped, .int i_at, .int i_to, .int 0, .ref a_number, .ref a_read, .int i_readMany, .ref a_readBits, .ref a_stands, .ref a_parted, .ref a_bitsWere, .ref a_stood, .ref a_chosen, .ref a_bestChosen, .int 0, .ref a_often, .ref a_sorted, .int i_size, .ref a_risen, .ref a_risenWays]))] H := hP
                                                have hD : va_D A [(a_chosen, .inl (cI, 8, .inl (upd (upd (upd (upd f_1 3 3) 3 2) 3 1) 3 0))), (a_bestChosen, .inl (cI, 8, .inl g_2)), (m0, .inr (9, [.int i_thrown, .int i_told, .ref a_row, .ref a_tape, .int i_taped, .int i_at, .int i_to, .int 0, .ref a_number, .ref a_read, .int i_readMany, .ref a_readBits, .ref a_stands, .ref a_parted, .ref a_bitsWere, .ref a_stood, .ref a_chosen, .ref a_bestChosen, .int 0, .ref a_often, .ref a_sorted, .int i_size, .ref a_risen, .ref a_risenWays]))] := hD
                                                refine lv_aload_n hx hb dX9_triesBits_121 rfl (lv_at hl 3 rfl) ?_
                                                refine lv_iload hx hb dX9_triesBits_122 (lv_at hl 0 rfl) ?_
                                                refine my_gpI (my_pV (As := [.int 0]) (rest := []) (ci := 9) ⟨hx, hb, hml, hown, hts⟩ (cwV 1 hts gX9_triesBits_X9_runsOf rfl rfl rfl (by decide +kernel) ⟨Nat.le_of_ble_eq_true rfl, Nat.le_of_ble_eq_true rfl⟩) hN hK hP [2] rfl 2 rfl rfl rfl rfl hl.1 rfl (Nat.le_of_ble_eq_true rfl) dX9_triesBits_124 ⟨Nat.le_of_ble_eq_true rfl, Nat.le_of_ble_eq_true rfl⟩  (k0_X9_runsOf l D cI cJ m0 a_row a_tape a_number a_read a_readBits a_stands a_parted a_bitsWere a_stood a_chosen a_bestChosen a_often a_sorted a_risen a_risenWays i_thrown i_told i_taped i_at i_to i_readMany (0 : Int32) i_size (0 : Int32))) (fun r hp => ?_)
                                                obtain rfl := hp
                                                refine lv_istore (lv' := [(5, .int 0), (4, .int 0), (6, .int 0), (0, .ref m0), (1, .int 3), (2, .int 224), (3, .int 0)]) hx hb dX9_triesBits_127 hl (by decide) rfl (fun ls hl => ?_)
                                                refine lv_aload_n hx hb dX9_triesBits_129 rfl (lv_at hl 3 rfl) ?_
                                                refine lv_iload hx hb dX9_triesBits_130 (lv_at hl 1 rfl) ?_
                                                refine my_goV (wr := [(a_chosen, .inl (cI, 8, .inl (upd (upd (upd (upd f_1 3 3) 3 2) 3 1) 3 0))), (a_bestChosen, .inl (cI, 8, .inl g_2))]) hP hD hS hA [2] [0, 1] rfl rfl (by decide) (by decide) (my_cV (As := [.int 0]) (rest := []) (ci := 9) (wc := [(m0, .inr (9, [.int i_thrown, .int i_told, .ref a_row, .ref a_tape, .int i_taped, .int i_at, .int i_to, .int 0, .ref a_number, .ref a_read, .int i_readMany, .ref a_readBits, .ref a_stands, .ref a_parted, .ref a_bitsWere, .ref a_stood, .ref a_chosen, .ref a_bestChosen, .int 0, .ref a_often, .ref a_sorted, .int i_size, .ref a_risen, .ref a_risenWays]))]) ⟨hx, hb, hml, hown, hts⟩ (cwV 1 hts gX9_triesBits_X9_parts rfl rfl rfl (by decide +kernel) ⟨Nat.le_of_ble_eq_true rfl, Nat.le_of_ble_eq_true rfl⟩) hN hK hP hD [2] rfl (by decide) rfl 2 rfl rfl rfl rfl hl.1 rfl (Nat.le_of_ble_eq_true rfl) dX9_triesBits_132 ⟨Nat.le_of_ble_eq_true rfl, Nat.le_of_ble_eq_true rfl⟩  ((k0_X9_parts l D cI cJ m0 a_row a_tape a_number a_read a_readBits a_stands a_parted a_bitsWere a_stood a_chosen a_bestChosen a_often a_sorted a_risen a_risenWays i_thrown i_told i_taped i_at i_to i_readMany (0 : Int32) i_size (0 : Int32)) _)) (fun u H locs hp hP hD hS => ?_)
                                                obtain rfl := hp
                                                have hP : va_P D vwCl [(a_chosen, .inl (cI, 8, .inl (upd (upd (upd (upd f_1 3 3) 3 2) 3 1) 3 0))), (a_bestChosen, .inl (cI, 8, .inl g_2)), (m0, .inr (9, [.int i_thrown, .int i_told, .ref a_row, .ref a_tape, .int i_taped, .int i_at, .int i_to, .int 0, .ref a_number, .ref a_read, .int i_readMany, .ref a_readBits, .ref a_stands, .ref a_parted, .ref a_bitsWere, .ref a_stood, .ref a_chosen, .ref a_bestChosen, .int 0, .ref a_often, .ref a_sorted, .int i_size, .ref a_risen, .ref a_risenWays]))] H := hP
                                                have hD : va_D A [(a_chosen, .inl (cI, 8, .inl (upd (upd (upd (upd f_1 3 3) 3 2) 3 1) 3 0))), (a_bestChosen, .inl (cI, 8, .inl g_2)), (m0, .inr (9, [.int i_thrown, .int i_told, .ref a_row, .ref a_tape, .int i_taped, .int i_at, .int i_to, .int 0, .ref a_number, .ref a_read, .int i_readMany, .ref a_readBits, .ref a_stands, .ref a_parted, .ref a_bitsWere, .ref a_stood, .ref a_chosen, .ref a_bestChosen, .int 0, .ref a_often, .ref a_sorted, .int i_size, .ref a_risen, .ref a_risenWays]))] := hD
                                                refine lv_aload_n hx hb dX9_triesBits_135 rfl (lv_at hl 3 rfl) ?_
                                                refine lv_iload_n hx hb dX9_triesBits_136 rfl (lv_at hl 4 rfl) ?_
                                                refine lv_iconst (v := 1) hx hb dX9_triesBits_137 (by decide +kernel) ?_
                                                refine lv_iadd hx hb dX9_triesBits_138 ?_
                                                refine my_eqi (y := 4) (by decide +kernel) ?_
                                                refine lv_iload_n hx hb dX9_triesBits_139 rfl (lv_at hl 5 rfl) ?_
                                                refine lv_iconst (v := 1) hx hb dX9_triesBits_140 (by decide +kernel) ?_
                                                refine lv_iload hx hb dX9_triesBits_141 (lv_at hl 1 rfl) ?_
                                                refine lv_ishl hx hb dX9_triesBits_143 ?_
                                                refine my_eqi (y := 1) (by decide +kernel) ?_
                                                refine lv_ior hx hb dX9_triesBits_144 ?_
                                                refine my_eqi (y := 225) (by decide +kernel) ?_
                                                refine lv_iload_n hx hb dX9_triesBits_145 rfl (lv_at hl 6 rfl) ?_
                                                refine lv_iload hx hb dX9_triesBits_146 (lv_at hl 0 rfl) ?_
                                                refine lv_iadd hx hb dX9_triesBits_148 ?_
                                                refine my_eqi (y := 0) (by decide +kernel) ?_
                                                refine my_goV (wr := [(a_chosen, .inl (cI, 8, .inl (upd (upd (upd (upd f_1 3 3) 3 2) 3 1) 3 0))), (a_bestChosen, .inl (cI, 8, .inl g_2))]) hP hD hS hA [2] [0, 1] rfl rfl (by decide) (by decide) (my_cV (As := [.int 4, .int 225, .int 0]) (rest := []) (ci := 9) (wc := [(m0, .inr (9, [.int i_thrown, .int i_told, .ref a_row, .ref a_tape, .int i_taped, .int i_at, .int i_to, .int 0, .ref a_number, .ref a_read, .int i_readMany, .ref a_readBits, .ref a_stands, .ref a_parted, .ref a_bitsWere, .ref a_stood, .ref a_chosen, .ref a_bestChosen, .int 0, .ref a_often, .ref a_sorted, .int i_size, .ref a_risen, .ref a_risenWays]))]) ⟨hx, hb, hml, hown, hts⟩ (cwV 3 hts gX9_triesBits_X9_triesBits rfl rfl rfl (by decide +kernel) ⟨Nat.le_of_ble_eq_true rfl, Nat.le_of_ble_eq_true rfl⟩) hN hK hP hD [2] rfl (by decide) rfl 2 rfl rfl rfl rfl hl.1 rfl (Nat.le_of_ble_eq_true rfl) dX9_triesBits_149 ⟨Nat.le_of_ble_eq_true rfl, Nat.le_of_ble_eq_true rfl⟩  ((kq_X9_triesBits l D cI cJ m0 a_row a_tape a_number a_read a_readBits a_stands a_parted a_bitsWere a_stood a_chosen a_bestChosen a_often a_sorted a_risen a_risenWays i_thrown i_told i_taped i_at i_to i_readMany i_size (4 : Int32) (225 : Int32)) _)) (fun u H locs hp hP hD hS => ?_)
                                                obtain rfl := hp
                                                have hP : va_P D vwCl [(a_chosen, .inl (cI, 8, .inl (upd (upd (upd (upd f_1 3 3) 3 2) 3 1) 3 0))), (a_bestChosen, .inl (cI, 8, .inl g_2)), (m0, .inr (9, [.int i_thrown, .int i_told, .ref a_row, .ref a_tape, .int i_taped, .int i_at, .int i_to, .int 0, .ref a_number, .ref a_read, .int i_readMany, .ref a_readBits, .ref a_stands, .ref a_parted, .ref a_bitsWere, .ref a_stood, .ref a_chosen, .ref a_bestChosen, .int 0, .ref a_often, .ref a_sorted, .int i_size, .ref a_risen, .ref a_risenWays]))] H := hP
                                                have hD : va_D A [(a_chosen, .inl (cI, 8, .inl (upd (upd (upd (upd f_1 3 3) 3 2) 3 1) 3 0))), (a_bestChosen, .inl (cI, 8, .inl g_2)), (m0, .inr (9, [.int i_thrown, .int i_told, .ref a_row, .ref a_tape, .int i_taped, .int i_at, .int i_to, .int 0, .ref a_number, .ref a_read, .int i_readMany, .ref a_readBits, .ref a_stands, .ref a_parted, .ref a_bitsWere, .ref a_stood, .ref a_chosen, .ref a_bestChosen, .int 0, .ref a_often, .ref a_sorted, .int i_size, .ref a_risen, .ref a_risenWays]))] := hD
                                                refine lv_iconst (v := 0) hx hb dX9_triesBits_152 (by decide +kernel) ?_
                                                refine lv_istore (lv' := [(6, .int 0), (5, .int 0), (4, .int 0), (0, .ref m0), (1, .int 3), (2, .int 224), (3, .int 0)]) hx hb dX9_triesBits_153 hl (by decide) rfl (fun ls hl => ?_)
                                                refine lv_iload hx hb dX9_triesBits_155 (lv_at hl 0 rfl) ?_
                                                refine lv_aload_n hx hb dX9_triesBits_157 rfl (lv_at hl 3 rfl) ?_
                                                refine va_get (ci := 9) (v := .int 0) (C := RX9) (T := TX9) (N := 24) hx hb hts hi9 hown hK hP 2 rfl rfl 7 (by decide) fl88 (fun _ h9 => h9) rfl dX9_triesBits_158 ?_
                                                refine lv_icmp_ge (tgt := 189) hx hb dX9_triesBits_161 (by decide) (fun c161 => ?_) (fun c161 => ?_)
                                                ·
                                                  refine lv_iinc (v := (-1)) (lv' := [(4, .int (-1)), (6, .int 0), (5, .int 0), (0, .ref m0), (1, .int 3), (2, .int 224), (3, .int 0)]) hx hb dX9_triesBits_189 hl (k := 2) rfl (by decide +kernel) (by decide) rfl (fun ls hl => ?_)
                                                  refine lv_goto (tgt := 99) hx hb dX9_triesBits_192 (by decide) ?_
                                                  refine lv_iload hx hb dX9_triesBits_99 (lv_at hl 0 rfl) ?_
                                                  refine lv_if_lt (tgt := 195) hx hb dX9_triesBits_101 (by decide) (fun c101 => ?_) (fun c101 => ?_)
                                                  ·
                                                    exact my_retV hx hb hr hlocks hK hS [(m0, .inr (9, [.int i_thrown, .int i_told, .ref a_row, .ref a_tape, .int i_taped, .int i_at, .int i_to, .int 0, .ref a_number, .ref a_read, .int i_readMany, .ref a_readBits, .ref a_stands, .ref a_parted, .ref a_bitsWere, .ref a_stood, .ref a_chosen, .ref a_bestChosen, .int 0, .ref a_often, .ref a_sorted, .int i_size, .ref a_risen, .ref a_risenWays])), (a_chosen, .inl (cI, 8, .inl (upd (upd (upd (upd f_1 3 3) 3 2) 3 1) 3 0))), (a_bestChosen, .inl (cI, 8, .inl g_2))] (hP.sub [2, 0, 1] rfl) (hD.sub [2, 0, 1] (by decide) rfl) (⟨(upd (upd (upd (upd f_1 3 3) 3 2) 3 1) 3 0), g_2, rfl⟩) dX9_triesBits_195
                                                  ·
                                                    exact absurd c101 (by decide +kernel)
                                                ·
                                                  exact absurd c161 (by decide +kernel)
                                          ·
                                            exact absurd c161 (by decide +kernel)
                                    ·
                                      exact absurd c161 (by decide +kernel)
                              ·
                                exact absurd c161 (by decide +kernel)
                        ·
                          exact absurd c161 (by decide +kernel)
                  ·
                    exact absurd c110 (by decide +kernel)
              ·
                exact absurd c110 (by decide +kernel)
          ·
            exact absurd c110 (by decide +kernel)
      ·
        exact absurd c67 (by decide +kernel)
    ·
      exact absurd c19 (by decide +kernel)
  ·
    exact absurd c4 (by decide +kernel)
set_option maxHeartbeats 4000000 in
set_option maxRecDepth 100000 in
theorem k0_X9_triesBits_2 (l : Launch) (D : va_G) (cI cJ : ClassId) (m0 : Nat) (a_row : Nat) (a_tape : Nat) (a_number : Nat) (a_read : Nat) (a_readBits : Nat) (a_stands : Nat) (a_parted : Nat) (a_bitsWere : Nat) (a_stood : Nat) (a_chosen : Nat) (a_bestChosen : Nat) (a_often : Nat) (a_sorted : Nat) (a_risen : Nat) (a_risenWays : Nat) (i_thrown : Int32) (i_told : Int32) (i_taped : Int32) (i_at : Int32) (i_to : Int32) (i_readMany : Int32) (i_size : Int32) (f : Nat → Int32) (g : Nat → Int32) : ctV l yX9_triesBits wsX9_triesBits ({ frames := 6, cells := 0, slots := 0, locals := 360 } : Room) D (tyIJ cI cJ) [.ref m0, .int 2, .int 192, .int 0] [(m0, .inr (9, [.int i_thrown, .int i_told, .ref a_row, .ref a_tape, .int i_taped, .int i_at, .int i_to, .int 0, .ref a_number, .ref a_read, .int i_readMany, .ref a_readBits, .ref a_stands, .ref a_parted, .ref a_bitsWere, .ref a_stood, .ref a_chosen, .ref a_bestChosen, .int (-1), .ref a_often, .ref a_sorted, .int i_size, .ref a_risen, .ref a_risenWays])), (a_chosen, .inl (cI, 8, .inl f)), (a_bestChosen, .inl (cI, 8, .inl g))] (fun (u : va_W) => ∃ (f' : Nat → Int32) (g' : Nat → Int32), u = [(m0, .inr (9, [.int i_thrown, .int i_told, .ref a_row, .ref a_tape, .int i_taped, .int i_at, .int i_to, .int 0, .ref a_number, .ref a_read, .int i_readMany, .ref a_readBits, .ref a_stands, .ref a_parted, .ref a_bitsWere, .ref a_stood, .ref a_chosen, .ref a_bestChosen, .int 0, .ref a_often, .ref a_sorted, .int i_size, .ref a_risen, .ref a_risenWays])), (a_chosen, .inl (cI, 8, .inl f')), (a_bestChosen, .inl (cI, 8, .inl g'))]) := by
  refine ctV.of (cc := cX9_triesBits) (maxL := 7) (ret := none) (by decide) rfl (Nat.le_of_ble_eq_true rfl) ?_
  intro p e s m below meth c ls A hx hb hr hts hown hml hlocks hname hA hK hN hP hD hS hl
  have hl : lv_has ls 7 [(0, .ref m0), (1, .int 2), (2, .int 192), (3, .int 0)] := hl
  have hown : s.vm.findClass RX9 = some m.cls := hown
  have hi9 : ∀ w ∈ u_ws RX9 TX9 24, w ∈ wsX9_triesBits := by decide +kernel
  have fl162 := hts (.fieldLink RX9 162 "PlaneColumnModel" "fewest" "I") (by decide +kernel)
  have fl70 := hts (.fieldLink RX9 70 "PlaneColumnModel" "chosen" "[I") (by decide +kernel)
  have fl88 := hts (.fieldLink RX9 88 "PlaneColumnModel" "many" "I") (by decide +kernel)
  refine lv_aload_n hx hb dX9_triesBits_0 rfl (lv_at hl 0 rfl) ?_
  refine va_get (ci := 9) (v := .int (-1)) (C := RX9) (T := TX9) (N := 24) hx hb hts hi9 hown hK hP 0 rfl rfl 18 (by decide) fl162 (fun _ h9 => h9) rfl dX9_triesBits_1 ?_
  refine lv_if_lt (tgt := 16) hx hb dX9_triesBits_4 (by decide) (fun c4 => ?_) (fun c4 => ?_)
  ·
    refine lv_iload_n hx hb dX9_triesBits_16 rfl (lv_at hl 1 rfl) ?_
    refine lv_bipush (v := 8) hx hb dX9_triesBits_17 (by decide +kernel) ?_
    refine lv_icmp_ne (tgt := 58) hx hb dX9_triesBits_19 (by decide) (fun c19 => ?_) (fun c19 => ?_)
    ·
      refine lv_iconst (v := 0) hx hb dX9_triesBits_58 (by decide +kernel) ?_
      refine lv_istore (lv' := [(4, .int 0), (0, .ref m0), (1, .int 2), (2, .int 192), (3, .int 0)]) hx hb dX9_triesBits_59 hl (by decide) rfl (fun ls hl => ?_)
      refine lv_iload hx hb dX9_triesBits_61 (lv_at hl 0 rfl) ?_
      refine lv_aload_n hx hb dX9_triesBits_63 rfl (lv_at hl 1 rfl) ?_
      refine va_get (ci := 9) (v := .int 0) (C := RX9) (T := TX9) (N := 24) hx hb hts hi9 hown hK hP 0 rfl rfl 7 (by decide) fl88 (fun _ h9 => h9) rfl dX9_triesBits_64 ?_
      refine lv_icmp_ge (tgt := 95) hx hb dX9_triesBits_67 (by decide) (fun c67 => ?_) (fun c67 => ?_)
      ·
        refine lv_bipush (v := 7) hx hb dX9_triesBits_95 (by decide +kernel) ?_
        refine lv_istore (lv' := [(4, .int 7), (0, .ref m0), (1, .int 2), (2, .int 192), (3, .int 0)]) hx hb dX9_triesBits_97 hl (by decide) rfl (fun ls hl => ?_)
        refine lv_iload hx hb dX9_triesBits_99 (lv_at hl 0 rfl) ?_
        refine lv_if_lt (tgt := 195) hx hb dX9_triesBits_101 (by decide) (fun c101 => ?_) (fun c101 => ?_)
        ·
          exact absurd c101 (by decide +kernel)
        ·
          refine lv_iload_n hx hb dX9_triesBits_104 rfl (lv_at hl 3 rfl) ?_
          refine lv_iload hx hb dX9_triesBits_105 (lv_at hl 0 rfl) ?_
          refine lv_ishr hx hb dX9_triesBits_107 ?_
          refine my_eqi (y := 1) (by decide +kernel) ?_
          refine lv_iconst (v := 1) hx hb dX9_triesBits_108 (by decide +kernel) ?_
          refine lv_iand hx hb dX9_triesBits_109 ?_
          refine my_eqi (y := 1) (by decide +kernel) ?_
          refine lv_if_ne (tgt := 189) hx hb dX9_triesBits_110 (by decide) (fun c110 => ?_) (fun c110 => ?_)
          ·
            refine lv_iinc (v := 6) (lv' := [(4, .int 6), (0, .ref m0), (1, .int 2), (2, .int 192), (3, .int 0)]) hx hb dX9_triesBits_189 hl (k := 0) rfl (by decide +kernel) (by decide) rfl (fun ls hl => ?_)
            refine lv_goto (tgt := 99) hx hb dX9_triesBits_192 (by decide) ?_
            refine lv_iload hx hb dX9_triesBits_99 (lv_at hl 0 rfl) ?_
            refine lv_if_lt (tgt := 195) hx hb dX9_triesBits_101 (by decide) (fun c101 => ?_) (fun c101 => ?_)
            ·
              exact absurd c101 (by decide +kernel)
            ·
              refine lv_iload_n hx hb dX9_triesBits_104 rfl (lv_at hl 3 rfl) ?_
              refine lv_iload hx hb dX9_triesBits_105 (lv_at hl 0 rfl) ?_
              refine lv_ishr hx hb dX9_triesBits_107 ?_
              refine my_eqi (y := 3) (by decide +kernel) ?_
              refine lv_iconst (v := 1) hx hb dX9_triesBits_108 (by decide +kernel) ?_
              refine lv_iand hx hb dX9_triesBits_109 ?_
              refine my_eqi (y := 1) (by decide +kernel) ?_
              refine lv_if_ne (tgt := 189) hx hb dX9_triesBits_110 (by decide) (fun c110 => ?_) (fun c110 => ?_)
              ·
                refine lv_iinc (v := 5) (lv' := [(4, .int 5), (0, .ref m0), (1, .int 2), (2, .int 192), (3, .int 0)]) hx hb dX9_triesBits_189 hl (k := 0) rfl (by decide +kernel) (by decide) rfl (fun ls hl => ?_)
                refine lv_goto (tgt := 99) hx hb dX9_triesBits_192 (by decide) ?_
                refine lv_iload hx hb dX9_triesBits_99 (lv_at hl 0 rfl) ?_
                refine lv_if_lt (tgt := 195) hx hb dX9_triesBits_101 (by decide) (fun c101 => ?_) (fun c101 => ?_)
                ·
                  exact absurd c101 (by decide +kernel)
                ·
                  refine lv_iload_n hx hb dX9_triesBits_104 rfl (lv_at hl 3 rfl) ?_
                  refine lv_iload hx hb dX9_triesBits_105 (lv_at hl 0 rfl) ?_
                  refine lv_ishr hx hb dX9_triesBits_107 ?_
                  refine my_eqi (y := 6) (by decide +kernel) ?_
                  refine lv_iconst (v := 1) hx hb dX9_triesBits_108 (by decide +kernel) ?_
                  refine lv_iand hx hb dX9_triesBits_109 ?_
                  refine my_eqi (y := 0) (by decide +kernel) ?_
                  refine lv_if_ne (tgt := 189) hx hb dX9_triesBits_110 (by decide) (fun c110 => ?_) (fun c110 => ?_)
                  ·
                    exact absurd c110 (by decide +kernel)
                  ·
                    refine lv_aload_n hx hb dX9_triesBits_113 rfl (lv_at hl 1 rfl) ?_
                    refine va_get (ci := 9) (v := .ref a_chosen) (C := RX9) (T := TX9) (N := 24) hx hb hts hi9 hown hK hP 0 rfl rfl 16 (by decide) fl70 (fun _ h9 => h9) rfl dX9_triesBits_114 ?_
                    refine lv_iload_n hx hb dX9_triesBits_117 rfl (lv_at hl 2 rfl) ?_
                    refine lv_iload hx hb dX9_triesBits_118 (lv_at hl 0 rfl) ?_
                    refine va_iast hx hb hK hP hD hS 1 0 rfl rfl (vp_in_nI (n := 2) (by omega) (by omega)) dX9_triesBits_120 (fun H locs hP hD hS => ?_)
                    have eU : upd f (2 : Int32).toNatClampNeg 5 = upd f 2 5 := by rw [show (2 : Int32).toNatClampNeg = 2 from by decide +kernel]
                    rw [eU] at hP hD
                    have hP : va_P D vwCl [(m0, .inr (9, [.int i_thrown, .int i_told, .ref a_row, .ref a_tape, .int i_taped, .int i_at, .int i_to, .int 0, .ref a_number, .ref a_read, .int i_readMany, .ref a_readBits, .ref a_stands, .ref a_parted, .ref a_bitsWere, .ref a_stood, .ref a_chosen, .ref a_bestChosen, .int (-1), .ref a_often, .ref a_sorted, .int i_size, .ref a_risen, .ref a_risenWays])), (a_chosen, .inl (cI, 8, .inl (upd f 2 5))), (a_bestChosen, .inl (cI, 8, .inl g))] H := hP
                    have hD : va_D A [(m0, .inr (9, [.int i_thrown, .int i_told, .ref a_row, .ref a_tape, .int i_taped, .int i_at, .int i_to, .int 0, .ref a_number, .ref a_read, .int i_readMany, .ref a_readBits, .ref a_stands, .ref a_parted, .ref a_bitsWere, .ref a_stood, .ref a_chosen, .ref a_bestChosen, .int (-1), .ref a_often, .ref a_sorted, .int i_size, .ref a_risen, .ref a_risenWays])), (a_chosen, .inl (cI, 8, .inl (upd f 2 5))), (a_bestChosen, .inl (cI, 8, .inl g))] := hD
                    refine lv_aload_n hx hb dX9_triesBits_121 rfl (lv_at hl 1 rfl) ?_
                    refine lv_iload hx hb dX9_triesBits_122 (lv_at hl 0 rfl) ?_
                    refine my_gpI (my_pV (As := [.int 5]) (rest := []) (ci := 9) ⟨hx, hb, hml, hown, hts⟩ (cwV 1 hts gX9_triesBits_X9_runsOf rfl rfl rfl (by decide +kernel) ⟨Nat.le_of_ble_eq_true rfl, Nat.le_of_ble_eq_true rfl⟩) hN hK hP [0] rfl 0 rfl rfl rfl rfl hl.1 rfl (Nat.le_of_ble_eq_true rfl) dX9_triesBits_124 ⟨Nat.le_of_ble_eq_true rfl, Nat.le_of_ble_eq_true rfl⟩  (k0_X9_runsOf l D cI cJ m0 a_row a_tape a_number a_read a_readBits a_stands a_parted a_bitsWere a_stood a_chosen a_bestChosen a_often a_sorted a_risen a_risenWays i_thrown i_told i_taped i_at i_to i_readMany (-1 : Int32) i_size (5 : Int32))) (fun r hp => ?_)
                    obtain rfl := hp
                    refine lv_istore (lv' := [(5, .int 0), (4, .int 5), (0, .ref m0), (1, .int 2), (2, .int 192), (3, .int 0)]) hx hb dX9_triesBits_127 hl (by decide) rfl (fun ls hl => ?_)
                    refine lv_aload_n hx hb dX9_triesBits_129 rfl (lv_at hl 2 rfl) ?_
                    refine lv_iload hx hb dX9_triesBits_130 (lv_at hl 1 rfl) ?_
                    refine my_goV (wr := [(a_chosen, .inl (cI, 8, .inl (upd f 2 5))), (a_bestChosen, .inl (cI, 8, .inl g))]) hP hD hS hA [0] [1, 2] rfl rfl (by decide) (by decide) (my_cV (As := [.int 5]) (rest := []) (ci := 9) (wc := [(m0, .inr (9, [.int i_thrown, .int i_told, .ref a_row, .ref a_tape, .int i_taped, .int i_at, .int i_to, .int 0, .ref a_number, .ref a_read, .int i_readMany, .ref a_readBits, .ref a_stands, .ref a_parted, .ref a_bitsWere, .ref a_stood, .ref a_chosen, .ref a_bestChosen, .int (-1), .ref a_often, .ref a_sorted, .int i_size, .ref a_risen, .ref a_risenWays]))]) ⟨hx, hb, hml, hown, hts⟩ (cwV 1 hts gX9_triesBits_X9_parts rfl rfl rfl (by decide +kernel) ⟨Nat.le_of_ble_eq_true rfl, Nat.le_of_ble_eq_true rfl⟩) hN hK hP hD [0] rfl (by decide) rfl 0 rfl rfl rfl rfl hl.1 rfl (Nat.le_of_ble_eq_true rfl) dX9_triesBits_132 ⟨Nat.le_of_ble_eq_true rfl, Nat.le_of_ble_eq_true rfl⟩  ((k0_X9_parts l D cI cJ m0 a_row a_tape a_number a_read a_readBits a_stands a_parted a_bitsWere a_stood a_chosen a_bestChosen a_often a_sorted a_risen a_risenWays i_thrown i_told i_taped i_at i_to i_readMany (-1 : Int32) i_size (5 : Int32)) _)) (fun u H locs hp hP hD hS => ?_)
                    obtain rfl := hp
                    have hP : va_P D vwCl [(a_chosen, .inl (cI, 8, .inl (upd f 2 5))), (a_bestChosen, .inl (cI, 8, .inl g)), (m0, .inr (9, [.int i_thrown, .int i_told, .ref a_row, .ref a_tape, .int i_taped, .int i_at, .int i_to, .int 0, .ref a_number, .ref a_read, .int i_readMany, .ref a_readBits, .ref a_stands, .ref a_parted, .ref a_bitsWere, .ref a_stood, .ref a_chosen, .ref a_bestChosen, .int (-1), .ref a_often, .ref a_sorted, .int i_size, .ref a_risen, .ref a_risenWays]))] H := hP
                    have hD : va_D A [(a_chosen, .inl (cI, 8, .inl (upd f 2 5))), (a_bestChosen, .inl (cI, 8, .inl g)), (m0, .inr (9, [.int i_thrown, .int i_told, .ref a_row, .ref a_tape, .int i_taped, .int i_at, .int i_to, .int 0, .ref a_number, .ref a_read, .int i_readMany, .ref a_readBits, .ref a_stands, .ref a_parted, .ref a_bitsWere, .ref a_stood, .ref a_chosen, .ref a_bestChosen, .int (-1), .ref a_often, .ref a_sorted, .int i_size, .ref a_risen, .ref a_risenWays]))] := hD
                    refine lv_aload_n hx hb dX9_triesBits_135 rfl (lv_at hl 2 rfl) ?_
                    refine lv_iload_n hx hb dX9_triesBits_136 rfl (lv_at hl 3 rfl) ?_
                    refine lv_iconst (v := 1) hx hb dX9_triesBits_137 (by decide +kernel) ?_
                    refine lv_iadd hx hb dX9_triesBits_138 ?_
                    refine my_eqi (y := 3) (by decide +kernel) ?_
                    refine lv_iload_n hx hb dX9_triesBits_139 rfl (lv_at hl 4 rfl) ?_
                    refine lv_iconst (v := 1) hx hb dX9_triesBits_140 (by decide +kernel) ?_
                    refine lv_iload hx hb dX9_triesBits_141 (lv_at hl 1 rfl) ?_
                    refine lv_ishl hx hb dX9_triesBits_143 ?_
                    refine my_eqi (y := 32) (by decide +kernel) ?_
                    refine lv_ior hx hb dX9_triesBits_144 ?_
                    refine my_eqi (y := 224) (by decide +kernel) ?_
                    refine lv_iload_n hx hb dX9_triesBits_145 rfl (lv_at hl 5 rfl) ?_
                    refine lv_iload hx hb dX9_triesBits_146 (lv_at hl 0 rfl) ?_
                    refine lv_iadd hx hb dX9_triesBits_148 ?_
                    refine my_eqi (y := 0) (by decide +kernel) ?_
                    refine my_goV (wr := []) hP hD hS hA [2, 0, 1] [] rfl rfl (by decide) (by decide) (my_cV (As := [.int 3, .int 224, .int 0]) (rest := []) (ci := 9) (wc := [(m0, .inr (9, [.int i_thrown, .int i_told, .ref a_row, .ref a_tape, .int i_taped, .int i_at, .int i_to, .int 0, .ref a_number, .ref a_read, .int i_readMany, .ref a_readBits, .ref a_stands, .ref a_parted, .ref a_bitsWere, .ref a_stood, .ref a_chosen, .ref a_bestChosen, .int (-1), .ref a_often, .ref a_sorted, .int i_size, .ref a_risen, .ref a_risenWays])), (a_chosen, .inl (cI, 8, .inl (upd f 2 5))), (a_bestChosen, .inl (cI, 8, .inl g))]) ⟨hx, hb, hml, hown, hts⟩ (cwV 3 hts gX9_triesBits_X9_triesBits rfl rfl rfl (by decide +kernel) ⟨Nat.le_of_ble_eq_true rfl, Nat.le_of_ble_eq_true rfl⟩) hN hK hP hD [2, 0, 1] rfl (by decide) rfl 2 rfl rfl rfl rfl hl.1 rfl (Nat.le_of_ble_eq_true rfl) dX9_triesBits_149 ⟨Nat.le_of_ble_eq_true rfl, Nat.le_of_ble_eq_true rfl⟩  ((k0_X9_triesBits_3 l D cI cJ m0 a_row a_tape a_number a_read a_readBits a_stands a_parted a_bitsWere a_stood a_chosen a_bestChosen a_often a_sorted a_risen a_risenWays i_thrown i_told i_taped i_at i_to i_readMany i_size (upd f 2 5) g) _)) (fun u H locs hp hP hD hS => ?_)
                    obtain ⟨f_1, g_2, rfl⟩ := hp
                    have hP : va_P D vwCl [(m0, .inr (9, [.int i_thrown, .int i_told, .ref a_row, .ref a_tape, .int i_taped, .int i_at, .int i_to, .int 0, .ref a_number, .ref a_read, .int i_readMany, .ref a_readBits, .ref a_stands, .ref a_parted, .ref a_bitsWere, .ref a_stood, .ref a_chosen, .ref a_bestChosen, .int 0, .ref a_often, .ref a_sorted, .int i_size, .ref a_risen, .ref a_risenWays])), (a_chosen, .inl (cI, 8, .inl f_1)), (a_bestChosen, .inl (cI, 8, .inl g_2))] H := hP
                    have hD : va_D A [(m0, .inr (9, [.int i_thrown, .int i_told, .ref a_row, .ref a_tape, .int i_taped, .int i_at, .int i_to, .int 0, .ref a_number, .ref a_read, .int i_readMany, .ref a_readBits, .ref a_stands, .ref a_parted, .ref a_bitsWere, .ref a_stood, .ref a_chosen, .ref a_bestChosen, .int 0, .ref a_often, .ref a_sorted, .int i_size, .ref a_risen, .ref a_risenWays])), (a_chosen, .inl (cI, 8, .inl f_1)), (a_bestChosen, .inl (cI, 8, .inl g_2))] := hD
                    refine lv_iconst (v := 0) hx hb dX9_triesBits_152 (by decide +kernel) ?_
                    refine lv_istore (lv' := [(6, .int 0), (5, .int 0), (4, .int 5), (0, .ref m0), (1, .int 2), (2, .int 192), (3, .int 0)]) hx hb dX9_triesBits_153 hl (by decide) rfl (fun ls hl => ?_)
                    refine lv_iload hx hb dX9_triesBits_155 (lv_at hl 0 rfl) ?_
                    refine lv_aload_n hx hb dX9_triesBits_157 rfl (lv_at hl 3 rfl) ?_
                    refine va_get (ci := 9) (v := .int 0) (C := RX9) (T := TX9) (N := 24) hx hb hts hi9 hown hK hP 0 rfl rfl 7 (by decide) fl88 (fun _ h9 => h9) rfl dX9_triesBits_158 ?_
                    refine lv_icmp_ge (tgt := 189) hx hb dX9_triesBits_161 (by decide) (fun c161 => ?_) (fun c161 => ?_)
                    ·
                      refine lv_iinc (v := 4) (lv' := [(4, .int 4), (6, .int 0), (5, .int 0), (0, .ref m0), (1, .int 2), (2, .int 192), (3, .int 0)]) hx hb dX9_triesBits_189 hl (k := 2) rfl (by decide +kernel) (by decide) rfl (fun ls hl => ?_)
                      refine lv_goto (tgt := 99) hx hb dX9_triesBits_192 (by decide) ?_
                      refine lv_iload hx hb dX9_triesBits_99 (lv_at hl 0 rfl) ?_
                      refine lv_if_lt (tgt := 195) hx hb dX9_triesBits_101 (by decide) (fun c101 => ?_) (fun c101 => ?_)
                      ·
                        exact absurd c101 (by decide +kernel)
                      ·
                        refine lv_iload_n hx hb dX9_triesBits_104 rfl (lv_at hl 5 rfl) ?_
                        refine lv_iload hx hb dX9_triesBits_105 (lv_at hl 0 rfl) ?_
                        refine lv_ishr hx hb dX9_triesBits_107 ?_
                        refine my_eqi (y := 12) (by decide +kernel) ?_
                        refine lv_iconst (v := 1) hx hb dX9_triesBits_108 (by decide +kernel) ?_
                        refine lv_iand hx hb dX9_triesBits_109 ?_
                        refine my_eqi (y := 0) (by decide +kernel) ?_
                        refine lv_if_ne (tgt := 189) hx hb dX9_triesBits_110 (by decide) (fun c110 => ?_) (fun c110 => ?_)
                        ·
                          exact absurd c110 (by decide +kernel)
                        ·
                          refine lv_aload_n hx hb dX9_triesBits_113 rfl (lv_at hl 3 rfl) ?_
                          refine va_get (ci := 9) (v := .ref a_chosen) (C := RX9) (T := TX9) (N := 24) hx hb hts hi9 hown hK hP 0 rfl rfl 16 (by decide) fl70 (fun _ h9 => h9) rfl dX9_triesBits_114 ?_
                          refine lv_iload_n hx hb dX9_triesBits_117 rfl (lv_at hl 4 rfl) ?_
                          refine lv_iload hx hb dX9_triesBits_118 (lv_at hl 0 rfl) ?_
                          refine va_iast hx hb hK hP hD hS 1 0 rfl rfl (vp_in_nI (n := 2) (by omega) (by omega)) dX9_triesBits_120 (fun H locs hP hD hS => ?_)
                          have eU : upd f_1 (2 : Int32).toNatClampNeg 4 = upd f_1 2 4 := by rw [show (2 : Int32).toNatClampNeg = 2 from by decide +kernel]
                          rw [eU] at hP hD
                          have hP : va_P D vwCl [(m0, .inr (9, [.int i_thrown, .int i_told, .ref a_row, .ref a_tape, .int i_taped, .int i_at, .int i_to, .int 0, .ref a_number, .ref a_read, .int i_readMany, .ref a_readBits, .ref a_stands, .ref a_parted, .ref a_bitsWere, .ref a_stood, .ref a_chosen, .ref a_bestChosen, .int 0, .ref a_often, .ref a_sorted, .int i_size, .ref a_risen, .ref a_risenWays])), (a_chosen, .inl (cI, 8, .inl (upd f_1 2 4))), (a_bestChosen, .inl (cI, 8, .inl g_2))] H := hP
                          have hD : va_D A [(m0, .inr (9, [.int i_thrown, .int i_told, .ref a_row, .ref a_tape, .int i_taped, .int i_at, .int i_to, .int 0, .ref a_number, .ref a_read, .int i_readMany, .ref a_readBits, .ref a_stands, .ref a_parted, .ref a_bitsWere, .ref a_stood, .ref a_chosen, .ref a_bestChosen, .int 0, .ref a_often, .ref a_sorted, .int i_size, .ref a_risen, .ref a_risenWays])), (a_chosen, .inl (cI, 8, .inl (upd f_1 2 4))), (a_bestChosen, .inl (cI, 8, .inl g_2))] := hD
                          refine lv_aload_n hx hb dX9_triesBits_121 rfl (lv_at hl 3 rfl) ?_
                          refine lv_iload hx hb dX9_triesBits_122 (lv_at hl 0 rfl) ?_
                          refine my_gpI (my_pV (As := [.int 4]) (rest := []) (ci := 9) ⟨hx, hb, hml, hown, hts⟩ (cwV 1 hts gX9_triesBits_X9_runsOf rfl rfl rfl (by decide +kernel) ⟨Nat.le_of_ble_eq_true rfl, Nat.le_of_ble_eq_true rfl⟩) hN hK hP [0] rfl 0 rfl rfl rfl rfl hl.1 rfl (Nat.le_of_ble_eq_true rfl) dX9_triesBits_124 ⟨Nat.le_of_ble_eq_true rfl, Nat.le_of_ble_eq_true rfl⟩  (k0_X9_runsOf l D cI cJ m0 a_row a_tape a_number a_read a_readBits a_stands a_parted a_bitsWere a_stood a_chosen a_bestChosen a_often a_sorted a_risen a_risenWays i_thrown i_told i_taped i_at i_to i_readMany (0 : Int32) i_size (4 : Int32))) (fun r hp => ?_)
                          obtain rfl := hp
                          refine lv_istore (lv' := [(5, .int 0), (4, .int 4), (6, .int 0), (0, .ref m0), (1, .int 2), (2, .int 192), (3, .int 0)]) hx hb dX9_triesBits_127 hl (by decide) rfl (fun ls hl => ?_)
                          refine lv_aload_n hx hb dX9_triesBits_129 rfl (lv_at hl 3 rfl) ?_
                          refine lv_iload hx hb dX9_triesBits_130 (lv_at hl 1 rfl) ?_
                          refine my_goV (wr := [(a_chosen, .inl (cI, 8, .inl (upd f_1 2 4))), (a_bestChosen, .inl (cI, 8, .inl g_2))]) hP hD hS hA [0] [1, 2] rfl rfl (by decide) (by decide) (my_cV (As := [.int 4]) (rest := []) (ci := 9) (wc := [(m0, .inr (9, [.int i_thrown, .int i_told, .ref a_row, .ref a_tape, .int i_taped, .int i_at, .int i_to, .int 0, .ref a_number, .ref a_read, .int i_readMany, .ref a_readBits, .ref a_stands, .ref a_parted, .ref a_bitsWere, .ref a_stood, .ref a_chosen, .ref a_bestChosen, .int 0, .ref a_often, .ref a_sorted, .int i_size, .ref a_risen, .ref a_risenWays]))]) ⟨hx, hb, hml, hown, hts⟩ (cwV 1 hts gX9_triesBits_X9_parts rfl rfl rfl (by decide +kernel) ⟨Nat.le_of_ble_eq_true rfl, Nat.le_of_ble_eq_true rfl⟩) hN hK hP hD [0] rfl (by decide) rfl 0 rfl rfl rfl rfl hl.1 rfl (Nat.le_of_ble_eq_true rfl) dX9_triesBits_132 ⟨Nat.le_of_ble_eq_true rfl, Nat.le_of_ble_eq_true rfl⟩  ((k0_X9_parts l D cI cJ m0 a_row a_tape a_number a_read a_readBits a_stands a_parted a_bitsWere a_stood a_chosen a_bestChosen a_often a_sorted a_risen a_risenWays i_thrown i_told i_taped i_at i_to i_readMany (0 : Int32) i_size (4 : Int32)) _)) (fun u H locs hp hP hD hS => ?_)
                          obtain rfl := hp
                          have hP : va_P D vwCl [(a_chosen, .inl (cI, 8, .inl (upd f_1 2 4))), (a_bestChosen, .inl (cI, 8, .inl g_2)), (m0, .inr (9, [.int i_thrown, .int i_told, .ref a_row, .ref a_tape, .int i_taped, .int i_at, .int i_to, .int 0, .ref a_number, .ref a_read, .int i_readMany, .ref a_readBits, .ref a_stands, .ref a_parted, .ref a_bitsWere, .ref a_stood, .ref a_chosen, .ref a_bestChosen, .int 0, .ref a_often, .ref a_sorted, .int i_size, .ref a_risen, .ref a_risenWays]))] H := hP
                          have hD : va_D A [(a_chosen, .inl (cI, 8, .inl (upd f_1 2 4))), (a_bestChosen, .inl (cI, 8, .inl g_2)), (m0, .inr (9, [.int i_thrown, .int i_told, .ref a_row, .ref a_tape, .int i_taped, .int i_at, .int i_to, .int 0, .ref a_number, .ref a_read, .int i_readMany, .ref a_readBits, .ref a_stands, .ref a_parted, .ref a_bitsWere, .ref a_stood, .ref a_chosen, .ref a_bestChosen, .int 0, .ref a_often, .ref a_sorted, .int i_size, .ref a_risen, .ref a_risenWays]))] := hD
                          refine lv_aload_n hx hb dX9_triesBits_135 rfl (lv_at hl 3 rfl) ?_
                          refine lv_iload_n hx hb dX9_triesBits_136 rfl (lv_at hl 4 rfl) ?_
                          refine lv_iconst (v := 1) hx hb dX9_triesBits_137 (by decide +kernel) ?_
                          refine lv_iadd hx hb dX9_triesBits_138 ?_
                          refine my_eqi (y := 3) (by decide +kernel) ?_
                          refine lv_iload_n hx hb dX9_triesBits_139 rfl (lv_at hl 5 rfl) ?_
                          refine lv_iconst (v := 1) hx hb dX9_triesBits_140 (by decide +kernel) ?_
                          refine lv_iload hx hb dX9_triesBits_141 (lv_at hl 1 rfl) ?_
                          refine lv_ishl hx hb dX9_triesBits_143 ?_
                          refine my_eqi (y := 16) (by decide +kernel) ?_
                          refine lv_ior hx hb dX9_triesBits_144 ?_
                          refine my_eqi (y := 208) (by decide +kernel) ?_
                          refine lv_iload_n hx hb dX9_triesBits_145 rfl (lv_at hl 6 rfl) ?_
                          refine lv_iload hx hb dX9_triesBits_146 (lv_at hl 0 rfl) ?_
                          refine lv_iadd hx hb dX9_triesBits_148 ?_
                          refine my_eqi (y := 0) (by decide +kernel) ?_
                          refine my_goV (wr := [(a_chosen, .inl (cI, 8, .inl (upd f_1 2 4))), (a_bestChosen, .inl (cI, 8, .inl g_2))]) hP hD hS hA [2] [0, 1] rfl rfl (by decide) (by decide) (my_cV (As := [.int 3, .int 208, .int 0]) (rest := []) (ci := 9) (wc := [(m0, .inr (9, [.int i_thrown, .int i_told, .ref a_row, .ref a_tape, .int i_taped, .int i_at, .int i_to, .int 0, .ref a_number, .ref a_read, .int i_readMany, .ref a_readBits, .ref a_stands, .ref a_parted, .ref a_bitsWere, .ref a_stood, .ref a_chosen, .ref a_bestChosen, .int 0, .ref a_often, .ref a_sorted, .int i_size, .ref a_risen, .ref a_risenWays]))]) ⟨hx, hb, hml, hown, hts⟩ (cwV 3 hts gX9_triesBits_X9_triesBits rfl rfl rfl (by decide +kernel) ⟨Nat.le_of_ble_eq_true rfl, Nat.le_of_ble_eq_true rfl⟩) hN hK hP hD [2] rfl (by decide) rfl 2 rfl rfl rfl rfl hl.1 rfl (Nat.le_of_ble_eq_true rfl) dX9_triesBits_149 ⟨Nat.le_of_ble_eq_true rfl, Nat.le_of_ble_eq_true rfl⟩  ((kq_X9_triesBits l D cI cJ m0 a_row a_tape a_number a_read a_readBits a_stands a_parted a_bitsWere a_stood a_chosen a_bestChosen a_often a_sorted a_risen a_risenWays i_thrown i_told i_taped i_at i_to i_readMany i_size (3 : Int32) (208 : Int32)) _)) (fun u H locs hp hP hD hS => ?_)
                          obtain rfl := hp
                          have hP : va_P D vwCl [(a_chosen, .inl (cI, 8, .inl (upd f_1 2 4))), (a_bestChosen, .inl (cI, 8, .inl g_2)), (m0, .inr (9, [.int i_thrown, .int i_told, .ref a_row, .ref a_tape, .int i_taped, .int i_at, .int i_to, .int 0, .ref a_number, .ref a_read, .int i_readMany, .ref a_readBits, .ref a_stands, .ref a_parted, .ref a_bitsWere, .ref a_stood, .ref a_chosen, .ref a_bestChosen, .int 0, .ref a_often, .ref a_sorted, .int i_size, .ref a_risen, .ref a_risenWays]))] H := hP
                          have hD : va_D A [(a_chosen, .inl (cI, 8, .inl (upd f_1 2 4))), (a_bestChosen, .inl (cI, 8, .inl g_2)), (m0, .inr (9, [.int i_thrown, .int i_told, .ref a_row, .ref a_tape, .int i_taped, .int i_at, .int i_to, .int 0, .ref a_number, .ref a_read, .int i_readMany, .ref a_readBits, .ref a_stands, .ref a_parted, .ref a_bitsWere, .ref a_stood, .ref a_chosen, .ref a_bestChosen, .int 0, .ref a_often, .ref a_sorted, .int i_size, .ref a_risen, .ref a_risenWays]))] := hD
                          refine lv_iconst (v := 0) hx hb dX9_triesBits_152 (by decide +kernel) ?_
                          refine lv_istore (lv' := [(6, .int 0), (5, .int 0), (4, .int 4), (0, .ref m0), (1, .int 2), (2, .int 192), (3, .int 0)]) hx hb dX9_triesBits_153 hl (by decide) rfl (fun ls hl => ?_)
                          refine lv_iload hx hb dX9_triesBits_155 (lv_at hl 0 rfl) ?_
                          refine lv_aload_n hx hb dX9_triesBits_157 rfl (lv_at hl 3 rfl) ?_
                          refine va_get (ci := 9) (v := .int 0) (C := RX9) (T := TX9) (N := 24) hx hb hts hi9 hown hK hP 2 rfl rfl 7 (by decide) fl88 (fun _ h9 => h9) rfl dX9_triesBits_158 ?_
                          refine lv_icmp_ge (tgt := 189) hx hb dX9_triesBits_161 (by decide) (fun c161 => ?_) (fun c161 => ?_)
                          ·
                            refine lv_iinc (v := 3) (lv' := [(4, .int 3), (6, .int 0), (5, .int 0), (0, .ref m0), (1, .int 2), (2, .int 192), (3, .int 0)]) hx hb dX9_triesBits_189 hl (k := 2) rfl (by decide +kernel) (by decide) rfl (fun ls hl => ?_)
                            refine lv_goto (tgt := 99) hx hb dX9_triesBits_192 (by decide) ?_
                            refine lv_iload hx hb dX9_triesBits_99 (lv_at hl 0 rfl) ?_
                            refine lv_if_lt (tgt := 195) hx hb dX9_triesBits_101 (by decide) (fun c101 => ?_) (fun c101 => ?_)
                            ·
                              exact absurd c101 (by decide +kernel)
                            ·
                              refine lv_iload_n hx hb dX9_triesBits_104 rfl (lv_at hl 5 rfl) ?_
                              refine lv_iload hx hb dX9_triesBits_105 (lv_at hl 0 rfl) ?_
                              refine lv_ishr hx hb dX9_triesBits_107 ?_
                              refine my_eqi (y := 24) (by decide +kernel) ?_
                              refine lv_iconst (v := 1) hx hb dX9_triesBits_108 (by decide +kernel) ?_
                              refine lv_iand hx hb dX9_triesBits_109 ?_
                              refine my_eqi (y := 0) (by decide +kernel) ?_
                              refine lv_if_ne (tgt := 189) hx hb dX9_triesBits_110 (by decide) (fun c110 => ?_) (fun c110 => ?_)
                              ·
                                exact absurd c110 (by decide +kernel)
                              ·
                                refine lv_aload_n hx hb dX9_triesBits_113 rfl (lv_at hl 3 rfl) ?_
                                refine va_get (ci := 9) (v := .ref a_chosen) (C := RX9) (T := TX9) (N := 24) hx hb hts hi9 hown hK hP 2 rfl rfl 16 (by decide) fl70 (fun _ h9 => h9) rfl dX9_triesBits_114 ?_
                                refine lv_iload_n hx hb dX9_triesBits_117 rfl (lv_at hl 4 rfl) ?_
                                refine lv_iload hx hb dX9_triesBits_118 (lv_at hl 0 rfl) ?_
                                refine va_iast hx hb hK hP hD hS 0 0 rfl rfl (vp_in_nI (n := 2) (by omega) (by omega)) dX9_triesBits_120 (fun H locs hP hD hS => ?_)
                                have eU : upd (upd f_1 2 4) (2 : Int32).toNatClampNeg 3 = upd (upd f_1 2 4) 2 3 := by rw [show (2 : Int32).toNatClampNeg = 2 from by decide +kernel]
                                rw [eU] at hP hD
                                have hP : va_P D vwCl [(a_chosen, .inl (cI, 8, .inl (upd (upd f_1 2 4) 2 3))), (a_bestChosen, .inl (cI, 8, .inl g_2)), (m0, .inr (9, [.int i_thrown, .int i_told, .ref a_row, .ref a_tape, .int i_taped, .int i_at, .int i_to, .int 0, .ref a_number, .ref a_read, .int i_readMany, .ref a_readBits, .ref a_stands, .ref a_parted, .ref a_bitsWere, .ref a_stood, .ref a_chosen, .ref a_bestChosen, .int 0, .ref a_often, .ref a_sorted, .int i_size, .ref a_risen, .ref a_risenWays]))] H := hP
                                have hD : va_D A [(a_chosen, .inl (cI, 8, .inl (upd (upd f_1 2 4) 2 3))), (a_bestChosen, .inl (cI, 8, .inl g_2)), (m0, .inr (9, [.int i_thrown, .int i_told, .ref a_row, .ref a_tape, .int i_taped, .int i_at, .int i_to, .int 0, .ref a_number, .ref a_read, .int i_readMany, .ref a_readBits, .ref a_stands, .ref a_parted, .ref a_bitsWere, .ref a_stood, .ref a_chosen, .ref a_bestChosen, .int 0, .ref a_often, .ref a_sorted, .int i_size, .ref a_risen, .ref a_risenWays]))] := hD
                                refine lv_aload_n hx hb dX9_triesBits_121 rfl (lv_at hl 3 rfl) ?_
                                refine lv_iload hx hb dX9_triesBits_122 (lv_at hl 0 rfl) ?_
                                refine my_gpI (my_pV (As := [.int 3]) (rest := []) (ci := 9) ⟨hx, hb, hml, hown, hts⟩ (cwV 1 hts gX9_triesBits_X9_runsOf rfl rfl rfl (by decide +kernel) ⟨Nat.le_of_ble_eq_true rfl, Nat.le_of_ble_eq_true rfl⟩) hN hK hP [2] rfl 2 rfl rfl rfl rfl hl.1 rfl (Nat.le_of_ble_eq_true rfl) dX9_triesBits_124 ⟨Nat.le_of_ble_eq_true rfl, Nat.le_of_ble_eq_true rfl⟩  (k0_X9_runsOf l D cI cJ m0 a_row a_tape a_number a_read a_readBits a_stands a_parted a_bitsWere a_stood a_chosen a_bestChosen a_often a_sorted a_risen a_risenWays i_thrown i_told i_taped i_at i_to i_readMany (0 : Int32) i_size (3 : Int32))) (fun r hp => ?_)
                                obtain rfl := hp
                                refine lv_istore (lv' := [(5, .int 0), (4, .int 3), (6, .int 0), (0, .ref m0), (1, .int 2), (2, .int 192), (3, .int 0)]) hx hb dX9_triesBits_127 hl (by decide) rfl (fun ls hl => ?_)
                                refine lv_aload_n hx hb dX9_triesBits_129 rfl (lv_at hl 3 rfl) ?_
                                refine lv_iload hx hb dX9_triesBits_130 (lv_at hl 1 rfl) ?_
                                refine my_goV (wr := [(a_chosen, .inl (cI, 8, .inl (upd (upd f_1 2 4) 2 3))), (a_bestChosen, .inl (cI, 8, .inl g_2))]) hP hD hS hA [2] [0, 1] rfl rfl (by decide) (by decide) (my_cV (As := [.int 3]) (rest := []) (ci := 9) (wc := [(m0, .inr (9, [.int i_thrown, .int i_told, .ref a_row, .ref a_tape, .int i_taped, .int i_at, .int i_to, .int 0, .ref a_number, .ref a_read, .int i_readMany, .ref a_readBits, .ref a_stands, .ref a_parted, .ref a_bitsWere, .ref a_stood, .ref a_chosen, .ref a_bestChosen, .int 0, .ref a_often, .ref a_sorted, .int i_size, .ref a_risen, .ref a_risenWays]))]) ⟨hx, hb, hml, hown, hts⟩ (cwV 1 hts gX9_triesBits_X9_parts rfl rfl rfl (by decide +kernel) ⟨Nat.le_of_ble_eq_true rfl, Nat.le_of_ble_eq_true rfl⟩) hN hK hP hD [2] rfl (by decide) rfl 2 rfl rfl rfl rfl hl.1 rfl (Nat.le_of_ble_eq_true rfl) dX9_triesBits_132 ⟨Nat.le_of_ble_eq_true rfl, Nat.le_of_ble_eq_true rfl⟩  ((k0_X9_parts l D cI cJ m0 a_row a_tape a_number a_read a_readBits a_stands a_parted a_bitsWere a_stood a_chosen a_bestChosen a_often a_sorted a_risen a_risenWays i_thrown i_told i_taped i_at i_to i_readMany (0 : Int32) i_size (3 : Int32)) _)) (fun u H locs hp hP hD hS => ?_)
                                obtain rfl := hp
                                have hP : va_P D vwCl [(a_chosen, .inl (cI, 8, .inl (upd (upd f_1 2 4) 2 3))), (a_bestChosen, .inl (cI, 8, .inl g_2)), (m0, .inr (9, [.int i_thrown, .int i_told, .ref a_row, .ref a_tape, .int i_taped, .int i_at, .int i_to, .int 0, .ref a_number, .ref a_read, .int i_readMany, .ref a_readBits, .ref a_stands, .ref a_parted, .ref a_bitsWere, .ref a_stood, .ref a_chosen, .ref a_bestChosen, .int 0, .ref a_often, .ref a_sorted, .int i_size, .ref a_risen, .ref a_risenWays]))] H := hP
                                have hD : va_D A [(a_chosen, .inl (cI, 8, .inl (upd (upd f_1 2 4) 2 3))), (a_bestChosen, .inl (cI, 8, .inl g_2)), (m0, .inr (9, [.int i_thrown, .int i_told, .ref a_row, .ref a_tape, .int i_taped, .int i_at, .int i_to, .int 0, .ref a_number, .ref a_read, .int i_readMany, .ref a_readBits, .ref a_stands, .ref a_parted, .ref a_bitsWere, .ref a_stood, .ref a_chosen, .ref a_bestChosen, .int 0, .ref a_often, .ref a_sorted, .int i_size, .ref a_risen, .ref a_risenWays]))] := hD
                                refine lv_aload_n hx hb dX9_triesBits_135 rfl (lv_at hl 3 rfl) ?_
                                refine lv_iload_n hx hb dX9_triesBits_136 rfl (lv_at hl 4 rfl) ?_
                                refine lv_iconst (v := 1) hx hb dX9_triesBits_137 (by decide +kernel) ?_
                                refine lv_iadd hx hb dX9_triesBits_138 ?_
                                refine my_eqi (y := 3) (by decide +kernel) ?_
                                refine lv_iload_n hx hb dX9_triesBits_139 rfl (lv_at hl 5 rfl) ?_
                                refine lv_iconst (v := 1) hx hb dX9_triesBits_140 (by decide +kernel) ?_
                                refine lv_iload hx hb dX9_triesBits_141 (lv_at hl 1 rfl) ?_
                                refine lv_ishl hx hb dX9_triesBits_143 ?_
                                refine my_eqi (y := 8) (by decide +kernel) ?_
                                refine lv_ior hx hb dX9_triesBits_144 ?_
                                refine my_eqi (y := 200) (by decide +kernel) ?_
                                refine lv_iload_n hx hb dX9_triesBits_145 rfl (lv_at hl 6 rfl) ?_
                                refine lv_iload hx hb dX9_triesBits_146 (lv_at hl 0 rfl) ?_
                                refine lv_iadd hx hb dX9_triesBits_148 ?_
                                refine my_eqi (y := 0) (by decide +kernel) ?_
                                refine my_goV (wr := [(a_chosen, .inl (cI, 8, .inl (upd (upd f_1 2 4) 2 3))), (a_bestChosen, .inl (cI, 8, .inl g_2))]) hP hD hS hA [2] [0, 1] rfl rfl (by decide) (by decide) (my_cV (As := [.int 3, .int 200, .int 0]) (rest := []) (ci := 9) (wc := [(m0, .inr (9, [.int i_thrown, .int i_told, .ref a_row, .ref a_tape, .int i_taped, .int i_at, .int i_to, .int 0, .ref a_number, .ref a_read, .int i_readMany, .ref a_readBits, .ref a_stands, .ref a_parted, .ref a_bitsWere, .ref a_stood, .ref a_chosen, .ref a_bestChosen, .int 0, .ref a_often, .ref a_sorted, .int i_size, .ref a_risen, .ref a_risenWays]))]) ⟨hx, hb, hml, hown, hts⟩ (cwV 3 hts gX9_triesBits_X9_triesBits rfl rfl rfl (by decide +kernel) ⟨Nat.le_of_ble_eq_true rfl, Nat.le_of_ble_eq_true rfl⟩) hN hK hP hD [2] rfl (by decide) rfl 2 rfl rfl rfl rfl hl.1 rfl (Nat.le_of_ble_eq_true rfl) dX9_triesBits_149 ⟨Nat.le_of_ble_eq_true rfl, Nat.le_of_ble_eq_true rfl⟩  ((kq_X9_triesBits l D cI cJ m0 a_row a_tape a_number a_read a_readBits a_stands a_parted a_bitsWere a_stood a_chosen a_bestChosen a_often a_sorted a_risen a_risenWays i_thrown i_told i_taped i_at i_to i_readMany i_size (3 : Int32) (200 : Int32)) _)) (fun u H locs hp hP hD hS => ?_)
                                obtain rfl := hp
                                have hP : va_P D vwCl [(a_chosen, .inl (cI, 8, .inl (upd (upd f_1 2 4) 2 3))), (a_bestChosen, .inl (cI, 8, .inl g_2)), (m0, .inr (9, [.int i_thrown, .int i_told, .ref a_row, .ref a_tape, .int i_taped, .int i_at, .int i_to, .int 0, .ref a_number, .ref a_read, .int i_readMany, .ref a_readBits, .ref a_stands, .ref a_parted, .ref a_bitsWere, .ref a_stood, .ref a_chosen, .ref a_bestChosen, .int 0, .ref a_often, .ref a_sorted, .int i_size, .ref a_risen, .ref a_risenWays]))] H := hP
                                have hD : va_D A [(a_chosen, .inl (cI, 8, .inl (upd (upd f_1 2 4) 2 3))), (a_bestChosen, .inl (cI, 8, .inl g_2)), (m0, .inr (9, [.int i_thrown, .int i_told, .ref a_row, .ref a_tape, .int i_taped, .int i_at, .int i_to, .int 0, .ref a_number, .ref a_read, .int i_readMany, .ref a_readBits, .ref a_stands, .ref a_parted, .ref a_bitsWere, .ref a_stood, .ref a_chosen, .ref a_bestChosen, .int 0, .ref a_often, .ref a_sorted, .int i_size, .ref a_risen, .ref a_risenWays]))] := hD
                                refine lv_iconst (v := 0) hx hb dX9_triesBits_152 (by decide +kernel) ?_
                                refine lv_istore (lv' := [(6, .int 0), (5, .int 0), (4, .int 3), (0, .ref m0), (1, .int 2), (2, .int 192), (3, .int 0)]) hx hb dX9_triesBits_153 hl (by decide) rfl (fun ls hl => ?_)
                                refine lv_iload hx hb dX9_triesBits_155 (lv_at hl 0 rfl) ?_
                                refine lv_aload_n hx hb dX9_triesBits_157 rfl (lv_at hl 3 rfl) ?_
                                refine va_get (ci := 9) (v := .int 0) (C := RX9) (T := TX9) (N := 24) hx hb hts hi9 hown hK hP 2 rfl rfl 7 (by decide) fl88 (fun _ h9 => h9) rfl dX9_triesBits_158 ?_
                                refine lv_icmp_ge (tgt := 189) hx hb dX9_triesBits_161 (by decide) (fun c161 => ?_) (fun c161 => ?_)
                                ·
                                  refine lv_iinc (v := 2) (lv' := [(4, .int 2), (6, .int 0), (5, .int 0), (0, .ref m0), (1, .int 2), (2, .int 192), (3, .int 0)]) hx hb dX9_triesBits_189 hl (k := 2) rfl (by decide +kernel) (by decide) rfl (fun ls hl => ?_)
                                  refine lv_goto (tgt := 99) hx hb dX9_triesBits_192 (by decide) ?_
                                  refine lv_iload hx hb dX9_triesBits_99 (lv_at hl 0 rfl) ?_
                                  refine lv_if_lt (tgt := 195) hx hb dX9_triesBits_101 (by decide) (fun c101 => ?_) (fun c101 => ?_)
                                  ·
                                    exact absurd c101 (by decide +kernel)
                                  ·
                                    refine lv_iload_n hx hb dX9_triesBits_104 rfl (lv_at hl 5 rfl) ?_
                                    refine lv_iload hx hb dX9_triesBits_105 (lv_at hl 0 rfl) ?_
                                    refine lv_ishr hx hb dX9_triesBits_107 ?_
                                    refine my_eqi (y := 48) (by decide +kernel) ?_
                                    refine lv_iconst (v := 1) hx hb dX9_triesBits_108 (by decide +kernel) ?_
                                    refine lv_iand hx hb dX9_triesBits_109 ?_
                                    refine my_eqi (y := 0) (by decide +kernel) ?_
                                    refine lv_if_ne (tgt := 189) hx hb dX9_triesBits_110 (by decide) (fun c110 => ?_) (fun c110 => ?_)
                                    ·
                                      exact absurd c110 (by decide +kernel)
                                    ·
                                      refine lv_aload_n hx hb dX9_triesBits_113 rfl (lv_at hl 3 rfl) ?_
                                      refine va_get (ci := 9) (v := .ref a_chosen) (C := RX9) (T := TX9) (N := 24) hx hb hts hi9 hown hK hP 2 rfl rfl 16 (by decide) fl70 (fun _ h9 => h9) rfl dX9_triesBits_114 ?_
                                      refine lv_iload_n hx hb dX9_triesBits_117 rfl (lv_at hl 4 rfl) ?_
                                      refine lv_iload hx hb dX9_triesBits_118 (lv_at hl 0 rfl) ?_
                                      refine va_iast hx hb hK hP hD hS 0 0 rfl rfl (vp_in_nI (n := 2) (by omega) (by omega)) dX9_triesBits_120 (fun H locs hP hD hS => ?_)
                                      have eU : upd (upd (upd f_1 2 4) 2 3) (2 : Int32).toNatClampNeg 2 = upd (upd (upd f_1 2 4) 2 3) 2 2 := by rw [show (2 : Int32).toNatClampNeg = 2 from by decide +kernel]
                                      rw [eU] at hP hD
                                      have hP : va_P D vwCl [(a_chosen, .inl (cI, 8, .inl (upd (upd (upd f_1 2 4) 2 3) 2 2))), (a_bestChosen, .inl (cI, 8, .inl g_2)), (m0, .inr (9, [.int i_thrown, .int i_told, .ref a_row, .ref a_tape, .int i_taped, .int i_at, .int i_to, .int 0, .ref a_number, .ref a_read, .int i_readMany, .ref a_readBits, .ref a_stands, .ref a_parted, .ref a_bitsWere, .ref a_stood, .ref a_chosen, .ref a_bestChosen, .int 0, .ref a_often, .ref a_sorted, .int i_size, .ref a_risen, .ref a_risenWays]))] H := hP
                                      have hD : va_D A [(a_chosen, .inl (cI, 8, .inl (upd (upd (upd f_1 2 4) 2 3) 2 2))), (a_bestChosen, .inl (cI, 8, .inl g_2)), (m0, .inr (9, [.int i_thrown, .int i_told, .ref a_row, .ref a_tape, .int i_taped, .int i_at, .int i_to, .int 0, .ref a_number, .ref a_read, .int i_readMany, .ref a_readBits, .ref a_stands, .ref a_parted, .ref a_bitsWere, .ref a_stood, .ref a_chosen, .ref a_bestChosen, .int 0, .ref a_often, .ref a_sorted, .int i_size, .ref a_risen, .ref a_risenWays]))] := hD
                                      refine lv_aload_n hx hb dX9_triesBits_121 rfl (lv_at hl 3 rfl) ?_
                                      refine lv_iload hx hb dX9_triesBits_122 (lv_at hl 0 rfl) ?_
                                      refine my_gpI (my_pV (As := [.int 2]) (rest := []) (ci := 9) ⟨hx, hb, hml, hown, hts⟩ (cwV 1 hts gX9_triesBits_X9_runsOf rfl rfl rfl (by decide +kernel) ⟨Nat.le_of_ble_eq_true rfl, Nat.le_of_ble_eq_true rfl⟩) hN hK hP [2] rfl 2 rfl rfl rfl rfl hl.1 rfl (Nat.le_of_ble_eq_true rfl) dX9_triesBits_124 ⟨Nat.le_of_ble_eq_true rfl, Nat.le_of_ble_eq_true rfl⟩  (k0_X9_runsOf l D cI cJ m0 a_row a_tape a_number a_read a_readBits a_stands a_parted a_bitsWere a_stood a_chosen a_bestChosen a_often a_sorted a_risen a_risenWays i_thrown i_told i_taped i_at i_to i_readMany (0 : Int32) i_size (2 : Int32))) (fun r hp => ?_)
                                      obtain rfl := hp
                                      refine lv_istore (lv' := [(5, .int 0), (4, .int 2), (6, .int 0), (0, .ref m0), (1, .int 2), (2, .int 192), (3, .int 0)]) hx hb dX9_triesBits_127 hl (by decide) rfl (fun ls hl => ?_)
                                      refine lv_aload_n hx hb dX9_triesBits_129 rfl (lv_at hl 3 rfl) ?_
                                      refine lv_iload hx hb dX9_triesBits_130 (lv_at hl 1 rfl) ?_
                                      refine my_goV (wr := [(a_chosen, .inl (cI, 8, .inl (upd (upd (upd f_1 2 4) 2 3) 2 2))), (a_bestChosen, .inl (cI, 8, .inl g_2))]) hP hD hS hA [2] [0, 1] rfl rfl (by decide) (by decide) (my_cV (As := [.int 2]) (rest := []) (ci := 9) (wc := [(m0, .inr (9, [.int i_thrown, .int i_told, .ref a_row, .ref a_tape, .int i_taped, .int i_at, .int i_to, .int 0, .ref a_number, .ref a_read, .int i_readMany, .ref a_readBits, .ref a_stands, .ref a_parted, .ref a_bitsWere, .ref a_stood, .ref a_chosen, .ref a_bestChosen, .int 0, .ref a_often, .ref a_sorted, .int i_size, .ref a_risen, .ref a_risenWays]))]) ⟨hx, hb, hml, hown, hts⟩ (cwV 1 hts gX9_triesBits_X9_parts rfl rfl rfl (by decide +kernel) ⟨Nat.le_of_ble_eq_true rfl, Nat.le_of_ble_eq_true rfl⟩) hN hK hP hD [2] rfl (by decide) rfl 2 rfl rfl rfl rfl hl.1 rfl (Nat.le_of_ble_eq_true rfl) dX9_triesBits_132 ⟨Nat.le_of_ble_eq_true rfl, Nat.le_of_ble_eq_true rfl⟩  ((k0_X9_parts l D cI cJ m0 a_row a_tape a_number a_read a_readBits a_stands a_parted a_bitsWere a_stood a_chosen a_bestChosen a_often a_sorted a_risen a_risenWays i_thrown i_told i_taped i_at i_to i_readMany (0 : Int32) i_size (2 : Int32)) _)) (fun u H locs hp hP hD hS => ?_)
                                      obtain rfl := hp
                                      have hP : va_P D vwCl [(a_chosen, .inl (cI, 8, .inl (upd (upd (upd f_1 2 4) 2 3) 2 2))), (a_bestChosen, .inl (cI, 8, .inl g_2)), (m0, .inr (9, [.int i_thrown, .int i_told, .ref a_row, .ref a_tape, .int i_taped, .int i_at, .int i_to, .int 0, .ref a_number, .ref a_read, .int i_readMany, .ref a_readBits, .ref a_stands, .ref a_parted, .ref a_bitsWere, .ref a_stood, .ref a_chosen, .ref a_bestChosen, .int 0, .ref a_often, .ref a_sorted, .int i_size, .ref a_risen, .ref a_risenWays]))] H := hP
                                      have hD : va_D A [(a_chosen, .inl (cI, 8, .inl (upd (upd (upd f_1 2 4) 2 3) 2 2))), (a_bestChosen, .inl (cI, 8, .inl g_2)), (m0, .inr (9, [.int i_thrown, .int i_told, .ref a_row, .ref a_tape, .int i_taped, .int i_at, .int i_to, .int 0, .ref a_number, .ref a_read, .int i_readMany, .ref a_readBits, .ref a_stands, .ref a_parted, .ref a_bitsWere, .ref a_stood, .ref a_chosen, .ref a_bestChosen, .int 0, .ref a_often, .ref a_sorted, .int i_size, .ref a_risen, .ref a_risenWays]))] := hD
                                      refine lv_aload_n hx hb dX9_triesBits_135 rfl (lv_at hl 3 rfl) ?_
                                      refine lv_iload_n hx hb dX9_triesBits_136 rfl (lv_at hl 4 rfl) ?_
                                      refine lv_iconst (v := 1) hx hb dX9_triesBits_137 (by decide +kernel) ?_
                                      refine lv_iadd hx hb dX9_triesBits_138 ?_
                                      refine my_eqi (y := 3) (by decide +kernel) ?_
                                      refine lv_iload_n hx hb dX9_triesBits_139 rfl (lv_at hl 5 rfl) ?_
                                      refine lv_iconst (v := 1) hx hb dX9_triesBits_140 (by decide +kernel) ?_
                                      refine lv_iload hx hb dX9_triesBits_141 (lv_at hl 1 rfl) ?_
                                      refine lv_ishl hx hb dX9_triesBits_143 ?_
                                      refine my_eqi (y := 4) (by decide +kernel) ?_
                                      refine lv_ior hx hb dX9_triesBits_144 ?_
                                      refine my_eqi (y := 196) (by decide +kernel) ?_
                                      refine lv_iload_n hx hb dX9_triesBits_145 rfl (lv_at hl 6 rfl) ?_
                                      refine lv_iload hx hb dX9_triesBits_146 (lv_at hl 0 rfl) ?_
                                      refine lv_iadd hx hb dX9_triesBits_148 ?_
                                      refine my_eqi (y := 0) (by decide +kernel) ?_
                                      refine my_goV (wr := [(a_chosen, .inl (cI, 8, .inl (upd (upd (upd f_1 2 4) 2 3) 2 2))), (a_bestChosen, .inl (cI, 8, .inl g_2))]) hP hD hS hA [2] [0, 1] rfl rfl (by decide) (by decide) (my_cV (As := [.int 3, .int 196, .int 0]) (rest := []) (ci := 9) (wc := [(m0, .inr (9, [.int i_thrown, .int i_told, .ref a_row, .ref a_tape, .int i_taped, .int i_at, .int i_to, .int 0, .ref a_number, .ref a_read, .int i_readMany, .ref a_readBits, .ref a_stands, .ref a_parted, .ref a_bitsWere, .ref a_stood, .ref a_chosen, .ref a_bestChosen, .int 0, .ref a_often, .ref a_sorted, .int i_size, .ref a_risen, .ref a_risenWays]))]) ⟨hx, hb, hml, hown, hts⟩ (cwV 3 hts gX9_triesBits_X9_triesBits rfl rfl rfl (by decide +kernel) ⟨Nat.le_of_ble_eq_true rfl, Nat.le_of_ble_eq_true rfl⟩) hN hK hP hD [2] rfl (by decide) rfl 2 rfl rfl rfl rfl hl.1 rfl (Nat.le_of_ble_eq_true rfl) dX9_triesBits_149 ⟨Nat.le_of_ble_eq_true rfl, Nat.le_of_ble_eq_true rfl⟩  ((kq_X9_triesBits l D cI cJ m0 a_row a_tape a_number a_read a_readBits a_stands a_parted a_bitsWere a_stood a_chosen a_bestChosen a_often a_sorted a_risen a_risenWays i_thrown i_told i_taped i_at i_to i_readMany i_size (3 : Int32) (196 : Int32)) _)) (fun u H locs hp hP hD hS => ?_)
                                      obtain rfl := hp
                                      have hP : va_P D vwCl [(a_chosen, .inl (cI, 8, .inl (upd (upd (upd f_1 2 4) 2 3) 2 2))), (a_bestChosen, .inl (cI, 8, .inl g_2)), (m0, .inr (9, [.int i_thrown, .int i_told, .ref a_row, .ref a_tape, .int i_taped, .int i_at, .int i_to, .int 0, .ref a_number, .ref a_read, .int i_readMany, .ref a_readBits, .ref a_stands, .ref a_parted, .ref a_bitsWere, .ref a_stood, .ref a_chosen, .ref a_bestChosen, .int 0, .ref a_often, .ref a_sorted, .int i_size, .ref a_risen, .ref a_risenWays]))] H := hP
                                      have hD : va_D A [(a_chosen, .inl (cI, 8, .inl (upd (upd (upd f_1 2 4) 2 3) 2 2))), (a_bestChosen, .inl (cI, 8, .inl g_2)), (m0, .inr (9, [.int i_thrown, .int i_told, .ref a_row, .ref a_tape, .int i_taped, .int i_at, .int i_to, .int 0, .ref a_number, .ref a_read, .int i_readMany, .ref a_readBits, .ref a_stands, .ref a_parted, .ref a_bitsWere, .ref a_stood, .ref a_chosen, .ref a_bestChosen, .int 0, .ref a_often, .ref a_sorted, .int i_size, .ref a_risen, .ref a_risenWays]))] := hD
                                      refine lv_iconst (v := 0) hx hb dX9_triesBits_152 (by decide +kernel) ?_
                                      refine lv_istore (lv' := [(6, .int 0), (5, .int 0), (4, .int 2), (0, .ref m0), (1, .int 2), (2, .int 192), (3, .int 0)]) hx hb dX9_triesBits_153 hl (by decide) rfl (fun ls hl => ?_)
                                      refine lv_iload hx hb dX9_triesBits_155 (lv_at hl 0 rfl) ?_
                                      refine lv_aload_n hx hb dX9_triesBits_157 rfl (lv_at hl 3 rfl) ?_
                                      refine va_get (ci := 9) (v := .int 0) (C := RX9) (T := TX9) (N := 24) hx hb hts hi9 hown hK hP 2 rfl rfl 7 (by decide) fl88 (fun _ h9 => h9) rfl dX9_triesBits_158 ?_
                                      refine lv_icmp_ge (tgt := 189) hx hb dX9_triesBits_161 (by decide) (fun c161 => ?_) (fun c161 => ?_)
                                      ·
                                        refine lv_iinc (v := 1) (lv' := [(4, .int 1), (6, .int 0), (5, .int 0), (0, .ref m0), (1, .int 2), (2, .int 192), (3, .int 0)]) hx hb dX9_triesBits_189 hl (k := 2) rfl (by decide +kernel) (by decide) rfl (fun ls hl => ?_)
                                        refine lv_goto (tgt := 99) hx hb dX9_triesBits_192 (by decide) ?_
                                        refine lv_iload hx hb dX9_triesBits_99 (lv_at hl 0 rfl) ?_
                                        refine lv_if_lt (tgt := 195) hx hb dX9_triesBits_101 (by decide) (fun c101 => ?_) (fun c101 => ?_)
                                        ·
                                          exact absurd c101 (by decide +kernel)
                                        ·
                                          refine lv_iload_n hx hb dX9_triesBits_104 rfl (lv_at hl 5 rfl) ?_
                                          refine lv_iload hx hb dX9_triesBits_105 (lv_at hl 0 rfl) ?_
                                          refine lv_ishr hx hb dX9_triesBits_107 ?_
                                          refine my_eqi (y := 96) (by decide +kernel) ?_
                                          refine lv_iconst (v := 1) hx hb dX9_triesBits_108 (by decide +kernel) ?_
                                          refine lv_iand hx hb dX9_triesBits_109 ?_
                                          refine my_eqi (y := 0) (by decide +kernel) ?_
                                          refine lv_if_ne (tgt := 189) hx hb dX9_triesBits_110 (by decide) (fun c110 => ?_) (fun c110 => ?_)
                                          ·
                                            exact absurd c110 (by decide +kernel)
                                          ·
                                            refine lv_aload_n hx hb dX9_triesBits_113 rfl (lv_at hl 3 rfl) ?_
                                            refine va_get (ci := 9) (v := .ref a_chosen) (C := RX9) (T := TX9) (N := 24) hx hb hts hi9 hown hK hP 2 rfl rfl 16 (by decide) fl70 (fun _ h9 => h9) rfl dX9_triesBits_114 ?_
                                            refine lv_iload_n hx hb dX9_triesBits_117 rfl (lv_at hl 4 rfl) ?_
                                            refine lv_iload hx hb dX9_triesBits_118 (lv_at hl 0 rfl) ?_
                                            refine va_iast hx hb hK hP hD hS 0 0 rfl rfl (vp_in_nI (n := 2) (by omega) (by omega)) dX9_triesBits_120 (fun H locs hP hD hS => ?_)
                                            have eU : upd (upd (upd (upd f_1 2 4) 2 3) 2 2) (2 : Int32).toNatClampNeg 1 = upd (upd (upd (upd f_1 2 4) 2 3) 2 2) 2 1 := by rw [show (2 : Int32).toNatClampNeg = 2 from by decide +kernel]
                                            rw [eU] at hP hD
                                            have hP : va_P D vwCl [(a_chosen, .inl (cI, 8, .inl (upd (upd (upd (upd f_1 2 4) 2 3) 2 2) 2 1))), (a_bestChosen, .inl (cI, 8, .inl g_2)), (m0, .inr (9, [.int i_thrown, .int i_told, .ref a_row, .ref a_tape, .int i_taped, .int i_at, .int i_to, .int 0, .ref a_number, .ref a_read, .int i_readMany, .ref a_readBits, .ref a_stands, .ref a_parted, .ref a_bitsWere, .ref a_stood, .ref a_chosen, .ref a_bestChosen, .int 0, .ref a_often, .ref a_sorted, .int i_size, .ref a_risen, .ref a_risenWays]))] H := hP
                                            have hD : va_D A [(a_chosen, .inl (cI, 8, .inl (upd (upd (upd (upd f_1 2 4) 2 3) 2 2) 2 1))), (a_bestChosen, .inl (cI, 8, .inl g_2)), (m0, .inr (9, [.int i_thrown, .int i_told, .ref a_row, .ref a_tape, .int i_taped, .int i_at, .int i_to, .int 0, .ref a_number, .ref a_read, .int i_readMany, .ref a_readBits, .ref a_stands, .ref a_parted, .ref a_bitsWere, .ref a_stood, .ref a_chosen, .ref a_bestChosen, .int 0, .ref a_often, .ref a_sorted, .int i_size, .ref a_risen, .ref a_risenWays]))] := hD
                                            refine lv_aload_n hx hb dX9_triesBits_121 rfl (lv_at hl 3 rfl) ?_
                                            refine lv_iload hx hb dX9_triesBits_122 (lv_at hl 0 rfl) ?_
                                            refine my_gpI (my_pV (As := [.int 1]) (rest := []) (ci := 9) ⟨hx, hb, hml, hown, hts⟩ (cwV 1 hts gX9_triesBits_X9_runsOf rfl rfl rfl (by decide +kernel) ⟨Nat.le_of_ble_eq_true rfl, Nat.le_of_ble_eq_true rfl⟩) hN hK hP [2] rfl 2 rfl rfl rfl rfl hl.1 rfl (Nat.le_of_ble_eq_true rfl) dX9_triesBits_124 ⟨Nat.le_of_ble_eq_true rfl, Nat.le_of_ble_eq_true rfl⟩  (k0_X9_runsOf l D cI cJ m0 a_row a_tape a_number a_read a_readBits a_stands a_parted a_bitsWere a_stood a_chosen a_bestChosen a_often a_sorted a_risen a_risenWays i_thrown i_told i_taped i_at i_to i_readMany (0 : Int32) i_size (1 : Int32))) (fun r hp => ?_)
                                            obtain rfl := hp
                                            refine lv_istore (lv' := [(5, .int 0), (4, .int 1), (6, .int 0), (0, .ref m0), (1, .int 2), (2, .int 192), (3, .int 0)]) hx hb dX9_triesBits_127 hl (by decide) rfl (fun ls hl => ?_)
                                            refine lv_aload_n hx hb dX9_triesBits_129 rfl (lv_at hl 3 rfl) ?_
                                            refine lv_iload hx hb dX9_triesBits_130 (lv_at hl 1 rfl) ?_
                                            refine my_goV (wr := [(a_chosen, .inl (cI, 8, .inl (upd (upd (upd (upd f_1 2 4) 2 3) 2 2) 2 1))), (a_bestChosen, .inl (cI, 8, .inl g_2))]) hP hD hS hA [2] [0, 1] rfl rfl (by decide) (by decide) (my_cV (As := [.int 1]) (rest := []) (ci := 9) (wc := [(m0, .inr (9, [.int i_thrown, .int i_told, .ref a_row, .ref a_tape, .int i_taped, .int i_at, .int i_to, .int 0, .ref a_number, .ref a_read, .int i_readMany, .ref a_readBits, .ref a_stands, .ref a_parted, .ref a_bitsWere, .ref a_stood, .ref a_chosen, .ref a_bestChosen, .int 0, .ref a_often, .ref a_sorted, .int i_size, .ref a_risen, .ref a_risenWays]))]) ⟨hx, hb, hml, hown, hts⟩ (cwV 1 hts gX9_triesBits_X9_parts rfl rfl rfl (by decide +kernel) ⟨Nat.le_of_ble_eq_true rfl, Nat.le_of_ble_eq_true rfl⟩) hN hK hP hD [2] rfl (by decide) rfl 2 rfl rfl rfl rfl hl.1 rfl (Nat.le_of_ble_eq_true rfl) dX9_triesBits_132 ⟨Nat.le_of_ble_eq_true rfl, Nat.le_of_ble_eq_true rfl⟩  ((k0_X9_parts l D cI cJ m0 a_row a_tape a_number a_read a_readBits a_stands a_parted a_bitsWere a_stood a_chosen a_bestChosen a_often a_sorted a_risen a_risenWays i_thrown i_told i_taped i_at i_to i_readMany (0 : Int32) i_size (1 : Int32)) _)) (fun u H locs hp hP hD hS => ?_)
                                            obtain rfl := hp
                                            have hP : va_P D vwCl [(a_chosen, .inl (cI, 8, .inl (upd (upd (upd (upd f_1 2 4) 2 3) 2 2) 2 1))), (a_bestChosen, .inl (cI, 8, .inl g_2)), (m0, .inr (9, [.int i_thrown, .int i_told, .ref a_row, .ref a_tape, .int i_taped, .int i_at, .int i_to, .int 0, .ref a_number, .ref a_read, .int i_readMany, .ref a_readBits, .ref a_stands, .ref a_parted, .ref a_bitsWere, .ref a_stood, .ref a_chosen, .ref a_bestChosen, .int 0, .ref a_often, .ref a_sorted, .int i_size, .ref a_risen, .ref a_risenWays]))] H := hP
                                            have hD : va_D A [(a_chosen, .inl (cI, 8, .inl (upd (upd (upd (upd f_1 2 4) 2 3) 2 2) 2 1))), (a_bestChosen, .inl (cI, 8, .inl g_2)), (m0, .inr (9, [.int i_thrown, .int i_told, .ref a_row, .ref a_tape, .int i_taped, .int i_at, .int i_to, .int 0, .ref a_number, .ref a_read, .int i_readMany, .ref a_readBits, .ref a_stands, .ref a_parted, .ref a_bitsWere, .ref a_stood, .ref a_chosen, .ref a_bestChosen, .int 0, .ref a_often, .ref a_sorted, .int i_size, .ref a_risen, .ref a_risenWays]))] := hD
                                            refine lv_aload_n hx hb dX9_triesBits_135 rfl (lv_at hl 3 rfl) ?_
                                            refine lv_iload_n hx hb dX9_triesBits_136 rfl (lv_at hl 4 rfl) ?_
                                            refine lv_iconst (v := 1) hx hb dX9_triesBits_137 (by decide +kernel) ?_
                                            refine lv_iadd hx hb dX9_triesBits_138 ?_
                                            refine my_eqi (y := 3) (by decide +kernel) ?_
                                            refine lv_iload_n hx hb dX9_triesBits_139 rfl (lv_at hl 5 rfl) ?_
                                            refine lv_iconst (v := 1) hx hb dX9_triesBits_140 (by decide +kernel) ?_
                                            refine lv_iload hx hb dX9_triesBits_141 (lv_at hl 1 rfl) ?_
                                            refine lv_ishl hx hb dX9_triesBits_143 ?_
                                            refine my_eqi (y := 2) (by decide +kernel) ?_
                                            refine lv_ior hx hb dX9_triesBits_144 ?_
                                            refine my_eqi (y := 194) (by decide +kernel) ?_
                                            refine lv_iload_n hx hb dX9_triesBits_145 rfl (lv_at hl 6 rfl) ?_
                                            refine lv_iload hx hb dX9_triesBits_146 (lv_at hl 0 rfl) ?_
                                            refine lv_iadd hx hb dX9_triesBits_148 ?_
                                            refine my_eqi (y := 0) (by decide +kernel) ?_
                                            refine my_goV (wr := [(a_chosen, .inl (cI, 8, .inl (upd (upd (upd (upd f_1 2 4) 2 3) 2 2) 2 1))), (a_bestChosen, .inl (cI, 8, .inl g_2))]) hP hD hS hA [2] [0, 1] rfl rfl (by decide) (by decide) (my_cV (As := [.int 3, .int 194, .int 0]) (rest := []) (ci := 9) (wc := [(m0, .inr (9, [.int i_thrown, .int i_told, .ref a_row, .ref a_tape, .int i_taped, .int i_at, .int i_to, .int 0, .ref a_number, .ref a_read, .int i_readMany, .ref a_readBits, .ref a_stands, .ref a_parted, .ref a_bitsWere, .ref a_stood, .ref a_chosen, .ref a_bestChosen, .int 0, .ref a_often, .ref a_sorted, .int i_size, .ref a_risen, .ref a_risenWays]))]) ⟨hx, hb, hml, hown, hts⟩ (cwV 3 hts gX9_triesBits_X9_triesBits rfl rfl rfl (by decide +kernel) ⟨Nat.le_of_ble_eq_true rfl, Nat.le_of_ble_eq_true rfl⟩) hN hK hP hD [2] rfl (by decide) rfl 2 rfl rfl rfl rfl hl.1 rfl (Nat.le_of_ble_eq_true rfl) dX9_triesBits_149 ⟨Nat.le_of_ble_eq_true rfl, Nat.le_of_ble_eq_true rfl⟩  ((kq_X9_triesBits l D cI cJ m0 a_row a_tape a_number a_read a_readBits a_stands a_parted a_bitsWere a_stood a_chosen a_bestChosen a_often a_sorted a_risen a_risenWays i_thrown i_told i_taped i_at i_to i_readMany i_size (3 : Int32) (194 : Int32)) _)) (fun u H locs hp hP hD hS => ?_)
                                            obtain rfl := hp
                                            have hP : va_P D vwCl [(a_chosen, .inl (cI, 8, .inl (upd (upd (upd (upd f_1 2 4) 2 3) 2 2) 2 1))), (a_bestChosen, .inl (cI, 8, .inl g_2)), (m0, .inr (9, [.int i_thrown, .int i_told, .ref a_row, .ref a_tape, .int i_taped, .int i_at, .int i_to, .int 0, .ref a_number, .ref a_read, .int i_readMany, .ref a_readBits, .ref a_stands, .ref a_parted, .ref a_bitsWere, .ref a_stood, .ref a_chosen, .ref a_bestChosen, .int 0, .ref a_often, .ref a_sorted, .int i_size, .ref a_risen, .ref a_risenWays]))] H := hP
                                            have hD : va_D A [(a_chosen, .inl (cI, 8, .inl (upd (upd (upd (upd f_1 2 4) 2 3) 2 2) 2 1))), (a_bestChosen, .inl (cI, 8, .inl g_2)), (m0, .inr (9, [.int i_thrown, .int i_told, .ref a_row, .ref a_tape, .int i_taped, .int i_at, .int i_to, .int 0, .ref a_number, .ref a_read, .int i_readMany, .ref a_readBits, .ref a_stands, .ref a_parted, .ref a_bitsWere, .ref a_stood, .ref a_chosen, .ref a_bestChosen, .int 0, .ref a_often, .ref a_sorted, .int i_size, .ref a_risen, .ref a_risenWays]))] := hD
                                            refine lv_iconst (v := 0) hx hb dX9_triesBits_152 (by decide +kernel) ?_
                                            refine lv_istore (lv' := [(6, .int 0), (5, .int 0), (4, .int 1), (0, .ref m0), (1, .int 2), (2, .int 192), (3, .int 0)]) hx hb dX9_triesBits_153 hl (by decide) rfl (fun ls hl => ?_)
                                            refine lv_iload hx hb dX9_triesBits_155 (lv_at hl 0 rfl) ?_
                                            refine lv_aload_n hx hb dX9_triesBits_157 rfl (lv_at hl 3 rfl) ?_
                                            refine va_get (ci := 9) (v := .int 0) (C := RX9) (T := TX9) (N := 24) hx hb hts hi9 hown hK hP 2 rfl rfl 7 (by decide) fl88 (fun _ h9 => h9) rfl dX9_triesBits_158 ?_
                                            refine lv_icmp_ge (tgt := 189) hx hb dX9_triesBits_161 (by decide) (fun c161 => ?_) (fun c161 => ?_)
                                            ·
                                              refine lv_iinc (v := 0) (lv' := [(4, .int 0), (6, .int 0), (5, .int 0), (0, .ref m0), (1, .int 2), (2, .int 192), (3, .int 0)]) hx hb dX9_triesBits_189 hl (k := 2) rfl (by decide +kernel) (by decide) rfl (fun ls hl => ?_)
                                              refine lv_goto (tgt := 99) hx hb dX9_triesBits_192 (by decide) ?_
                                              refine lv_iload hx hb dX9_triesBits_99 (lv_at hl 0 rfl) ?_
                                              refine lv_if_lt (tgt := 195) hx hb dX9_triesBits_101 (by decide) (fun c101 => ?_) (fun c101 => ?_)
                                              ·
                                                exact absurd c101 (by decide +kernel)
                                              ·
                                                refine lv_iload_n hx hb dX9_triesBits_104 rfl (lv_at hl 5 rfl) ?_
                                                refine lv_iload hx hb dX9_triesBits_105 (lv_at hl 0 rfl) ?_
                                                refine lv_ishr hx hb dX9_triesBits_107 ?_
                                                refine my_eqi (y := 192) (by decide +kernel) ?_
                                                refine lv_iconst (v := 1) hx hb dX9_triesBits_108 (by decide +kernel) ?_
                                                refine lv_iand hx hb dX9_triesBits_109 ?_
                                                refine my_eqi (y := 0) (by decide +kernel) ?_
                                                refine lv_if_ne (tgt := 189) hx hb dX9_triesBits_110 (by decide) (fun c110 => ?_) (fun c110 => ?_)
                                                ·
                                                  exact absurd c110 (by decide +kernel)
                                                ·
                                                  refine lv_aload_n hx hb dX9_triesBits_113 rfl (lv_at hl 3 rfl) ?_
                                                  refine va_get (ci := 9) (v := .ref a_chosen) (C := RX9) (T := TX9) (N := 24) hx hb hts hi9 hown hK hP 2 rfl rfl 16 (by decide) fl70 (fun _ h9 => h9) rfl dX9_triesBits_114 ?_
                                                  refine lv_iload_n hx hb dX9_triesBits_117 rfl (lv_at hl 4 rfl) ?_
                                                  refine lv_iload hx hb dX9_triesBits_118 (lv_at hl 0 rfl) ?_
                                                  refine va_iast hx hb hK hP hD hS 0 0 rfl rfl (vp_in_nI (n := 2) (by omega) (by omega)) dX9_triesBits_120 (fun H locs hP hD hS => ?_)
                                                  have eU : upd (upd (upd (upd (upd f_1 2 4) 2 3) 2 2) 2 1) (2 : Int32).toNatClampNeg 0 = upd (upd (upd (upd (upd f_1 2 4) 2 3) 2 2) 2 1) 2 0 := by rw [show (2 : Int32).toNatClampNeg = 2 from by decide +kernel]
                                                  rw [eU] at hP hD
                                                  have hP : va_P D vwCl [(a_chosen, .inl (cI, 8, .inl (upd (upd (upd (upd (upd f_1 2 4) 2 3) 2 2) 2 1) 2 0))), (a_bestChosen, .inl (cI, 8, .inl g_2)), (m0, .inr (9, [.int i_thrown, .int i_told, .ref a_row, .ref a_tape, .int i_taped, .int i_at, .int i_to, .int 0, .ref a_number, .ref a_read, .int i_readMany, .ref a_readBits, .ref a_stands, .ref a_parted, .ref a_bitsWere, .ref a_stood, .ref a_chosen, .ref a_bestChosen, .int 0, .ref a_often, .ref a_sorted, .int i_size, .ref a_risen, .ref a_risenWays]))] H := hP
                                                  have hD : va_D A [(a_chosen, .inl (cI, 8, .inl (upd (upd (upd (upd (upd f_1 2 4) 2 3) 2 2) 2 1) 2 0))), (a_bestChosen, .inl (cI, 8, .inl g_2)), (m0, .inr (9, [.int i_thrown, .int i_told, .ref a_row, .ref a_tape, .int i_taped, .int i_at, .int i_to, .int 0, .ref a_number, .ref a_read, .int i_readMany, .ref a_readBits, .ref a_stands, .ref a_parted, .ref a_bitsWere, .ref a_stood, .ref a_chosen, .ref a_bestChosen, .int 0, .ref a_often, .ref a_sorted, .int i_size, .ref a_risen, .ref a_risenWays]))] := hD
                                                  refine lv_aload_n hx hb dX9_triesBits_121 rfl (lv_at hl 3 rfl) ?_
                                                  refine lv_iload hx hb dX9_triesBits_122 (lv_at hl 0 rfl) ?_
                                                  refine my_gpI (my_pV (As := [.int 0]) (rest := []) (ci := 9) ⟨hx, hb, hml, hown, hts⟩ (cwV 1 hts gX9_triesBits_X9_runsOf rfl rfl rfl (by decide +kernel) ⟨Nat.le_of_ble_eq_true rfl, Nat.le_of_ble_eq_true rfl⟩) hN hK hP [2] rfl 2 rfl rfl rfl rfl hl.1 rfl (Nat.le_of_ble_eq_true rfl) dX9_triesBits_124 ⟨Nat.le_of_ble_eq_true rfl, Nat.le_of_ble_eq_true rfl⟩  (k0_X9_runsOf l D cI cJ m0 a_row a_tape a_number a_read a_readBits a_stands a_parted a_bitsWere a_stood a_chosen a_bestChosen a_often a_sorted a_risen a_risenWays i_thrown i_told i_taped i_at i_to i_readMany (0 : Int32) i_size (0 : Int32))) (fun r hp => ?_)
                                                  obtain rfl := hp
                                                  refine lv_istore (lv' := [(5, .int 0), (4, .int 0), (6, .int 0), (0, .ref m0), (1, .int 2), (2, .int 192), (3, .int 0)]) hx hb dX9_triesBits_127 hl (by decide) rfl (fun ls hl => ?_)
                                                  refine lv_aload_n hx hb dX9_triesBits_129 rfl (lv_at hl 3 rfl) ?_
                                                  refine lv_iload hx hb dX9_triesBits_130 (lv_at hl 1 rfl) ?_
                                                  refine my_goV (wr := [(a_chosen, .inl (cI, 8, .inl (upd (upd (upd (upd (upd f_1 2 4) 2 3) 2 2) 2 1) 2 0))), (a_bestChosen, .inl (cI, 8, .inl g_2))]) hP hD hS hA [2] [0, 1] rfl rfl (by decide) (by decide) (my_cV (As := [.int 0]) (rest := []) (ci := 9) (wc := [(m0, .inr (9, [.int i_thrown, .int i_told, .ref a_row, .ref a_tape, .int i_taped, .int i_at, .int i_to, .int 0, .ref a_number, .ref a_read, .int i_readMany, .ref a_readBits, .ref a_stands, .ref a_parted, .ref a_bitsWere, .ref a_stood, .ref a_chosen, .ref a_bestChosen, .int 0, .ref a_often, .ref a_sorted, .int i_size, .ref a_risen, .ref a_risenWays]))]) ⟨hx, hb, hml, hown, hts⟩ (cwV 1 hts gX9_triesBits_X9_parts rfl rfl rfl (by decide +kernel) ⟨Nat.le_of_ble_eq_true rfl, Nat.le_of_ble_eq_true rfl⟩) hN hK hP hD [2] rfl (by decide) rfl 2 rfl rfl rfl rfl hl.1 rfl (Nat.le_of_ble_eq_true rfl) dX9_triesBits_132 ⟨Nat.le_of_ble_eq_true rfl, Nat.le_of_ble_eq_true rfl⟩  ((k0_X9_parts l D cI cJ m0 a_row a_tape a_number a_read a_readBits a_stands a_parted a_bitsWere a_stood a_chosen a_bestChosen a_often a_sorted a_risen a_risenWays i_thrown i_told i_taped i_at i_to i_readMany (0 : Int32) i_size (0 : Int32)) _)) (fun u H locs hp hP hD hS => ?_)
                                                  obtain rfl := hp
                                                  have hP : va_P D vwCl [(a_chosen, .inl (cI, 8, .inl (upd (upd (upd (upd (upd f_1 2 4) 2 3) 2 2) 2 1) 2 0))), (a_bestChosen, .inl (cI, 8, .inl g_2)), (m0, .inr (9, [.int i_thrown, .int i_told, .ref a_row, .ref a_tape, .int i_taped, .int i_at, .int i_to, .int 0, .ref a_number, .ref a_read, .int i_readMany, .ref a_readBits, .ref a_stands, .ref a_parted, .ref a_bitsWere, .ref a_stood, .ref a_chosen, .ref a_bestChosen, .int 0, .ref a_often, .ref a_sorted, .int i_size, .ref a_risen, .ref a_risenWays]))] H := hP
                                                  have hD : va_D A [(a_chosen, .inl (cI, 8, .inl (upd (upd (upd (upd (upd f_1 2 4) 2 3) 2 2) 2 1) 2 0))), (a_bestChosen, .inl (cI, 8, .inl g_2)), (m0, .inr (9, [.int i_thrown, .int i_told, .ref a_row, .ref a_tape, .int i_taped, .int i_at, .int i_to, .int 0, .ref a_number, .ref a_read, .int i_readMany, .ref a_readBits, .ref a_stands, .ref a_parted, .ref a_bitsWere, .ref a_stood, .ref a_chosen, .ref a_bestChosen, .int 0, .ref a_often, .ref a_sorted, .int i_size, .ref a_risen, .ref a_risenWays]))] := hD
                                                  refine lv_aload_n hx hb dX9_triesBits_135 rfl (lv_at hl 3 rfl) ?_
                                                  refine lv_iload_n hx hb dX9_triesBits_136 rfl (lv_at hl 4 rfl) ?_
                                                  refine lv_iconst (v := 1) hx hb dX9_triesBits_137 (by decide +kernel) ?_
                                                  refine lv_iadd hx hb dX9_triesBits_138 ?_
                                                  refine my_eqi (y := 3) (by decide +kernel) ?_
                                                  refine lv_iload_n hx hb dX9_triesBits_139 rfl (lv_at hl 5 rfl) ?_
                                                  refine lv_iconst (v := 1) hx hb dX9_triesBits_140 (by decide +kernel) ?_
                                                  refine lv_iload hx hb dX9_triesBits_141 (lv_at hl 1 rfl) ?_
                                                  refine lv_ishl hx hb dX9_triesBits_143 ?_
                                                  refine my_eqi (y := 1) (by decide +kernel) ?_
                                                  refine lv_ior hx hb dX9_triesBits_144 ?_
                                                  refine my_eqi (y := 193) (by decide +kernel) ?_
                                                  refine lv_iload_n hx hb dX9_triesBits_145 rfl (lv_at hl 6 rfl) ?_
                                                  refine lv_iload hx hb dX9_triesBits_146 (lv_at hl 0 rfl) ?_
                                                  refine lv_iadd hx hb dX9_triesBits_148 ?_
                                                  refine my_eqi (y := 0) (by decide +kernel) ?_
                                                  refine my_goV (wr := [(a_chosen, .inl (cI, 8, .inl (upd (upd (upd (upd (upd f_1 2 4) 2 3) 2 2) 2 1) 2 0))), (a_bestChosen, .inl (cI, 8, .inl g_2))]) hP hD hS hA [2] [0, 1] rfl rfl (by decide) (by decide) (my_cV (As := [.int 3, .int 193, .int 0]) (rest := []) (ci := 9) (wc := [(m0, .inr (9, [.int i_thrown, .int i_told, .ref a_row, .ref a_tape, .int i_taped, .int i_at, .int i_to, .int 0, .ref a_number, .ref a_read, .int i_readMany, .ref a_readBits, .ref a_stands, .ref a_parted, .ref a_bitsWere, .ref a_stood, .ref a_chosen, .ref a_bestChosen, .int 0, .ref a_often, .ref a_sorted, .int i_size, .ref a_risen, .ref a_risenWays]))]) ⟨hx, hb, hml, hown, hts⟩ (cwV 3 hts gX9_triesBits_X9_triesBits rfl rfl rfl (by decide +kernel) ⟨Nat.le_of_ble_eq_true rfl, Nat.le_of_ble_eq_true rfl⟩) hN hK hP hD [2] rfl (by decide) rfl 2 rfl rfl rfl rfl hl.1 rfl (Nat.le_of_ble_eq_true rfl) dX9_triesBits_149 ⟨Nat.le_of_ble_eq_true rfl, Nat.le_of_ble_eq_true rfl⟩  ((kq_X9_triesBits l D cI cJ m0 a_row a_tape a_number a_read a_readBits a_stands a_parted a_bitsWere a_stood a_chosen a_bestChosen a_often a_sorted a_risen a_risenWays i_thrown i_told i_taped i_at i_to i_readMany i_size (3 : Int32) (193 : Int32)) _)) (fun u H locs hp hP hD hS => ?_)
                                                  obtain rfl := hp
                                                  have hP : va_P D vwCl [(a_chosen, .inl (cI, 8, .inl (upd (upd (upd (upd (upd f_1 2 4) 2 3) 2 2) 2 1) 2 0))), (a_bestChosen, .inl (cI, 8, .inl g_2)), (m0, .inr (9, [.int i_thrown, .int i_told, .ref a_row, .ref a_tape, .int i_taped, .int i_at, .int i_to, .int 0, .ref a_number, .ref a_read, .int i_readMany, .ref a_readBits, .ref a_stands, .ref a_parted, .ref a_bitsWere, .ref a_stood, .ref a_chosen, .ref a_bestChosen, .int 0, .ref a_often, .ref a_sorted, .int i_size, .ref a_risen, .ref a_risenWays]))] H := hP
                                                  have hD : va_D A [(a_chosen, .inl (cI, 8, .inl (upd (upd (upd (upd (upd f_1 2 4) 2 3) 2 2) 2 1) 2 0))), (a_bestChosen, .inl (cI, 8, .inl g_2)), (m0, .inr (9, [.int i_thrown, .int i_told, .ref a_row, .ref a_tape, .int i_taped, .int i_at, .int i_to, .int 0, .ref a_number, .ref a_read, .int i_readMany, .ref a_readBits, .ref a_stands, .ref a_parted, .ref a_bitsWere, .ref a_stood, .ref a_chosen, .ref a_bestChosen, .int 0, .ref a_often, .ref a_sorted, .int i_size, .ref a_risen, .ref a_risenWays]))] := hD
                                                  refine lv_iconst (v := 0) hx hb dX9_triesBits_152 (by decide +kernel) ?_
                                                  refine lv_istore (lv' := [(6, .int 0), (5, .int 0), (4, .int 0), (0, .ref m0), (1, .int 2), (2, .int 192), (3, .int 0)]) hx hb dX9_triesBits_153 hl (by decide) rfl (fun ls hl => ?_)
                                                  refine lv_iload hx hb dX9_triesBits_155 (lv_at hl 0 rfl) ?_
                                                  refine lv_aload_n hx hb dX9_triesBits_157 rfl (lv_at hl 3 rfl) ?_
                                                  refine va_get (ci := 9) (v := .int 0) (C := RX9) (T := TX9) (N := 24) hx hb hts hi9 hown hK hP 2 rfl rfl 7 (by decide) fl88 (fun _ h9 => h9) rfl dX9_triesBits_158 ?_
                                                  refine lv_icmp_ge (tgt := 189) hx hb dX9_triesBits_161 (by decide) (fun c161 => ?_) (fun c161 => ?_)
                                                  ·
                                                    refine lv_iinc (v := (-1)) (lv' := [(4, .int (-1)), (6, .int 0), (5, .int 0), (0, .ref m0), (1, .int 2), (2, .int 192), (3, .int 0)]) hx hb dX9_triesBits_189 hl (k := 2) rfl (by decide +kernel) (by decide) rfl (fun ls hl => ?_)
                                                    refine lv_goto (tgt := 99) hx hb dX9_triesBits_192 (by decide) ?_
                                                    refine lv_iload hx hb dX9_triesBits_99 (lv_at hl 0 rfl) ?_
                                                    refine lv_if_lt (tgt := 195) hx hb dX9_triesBits_101 (by decide) (fun c101 => ?_) (fun c101 => ?_)
                                                    ·
                                                      exact my_retV hx hb hr hlocks hK hS [(m0, .inr (9, [.int i_thrown, .int i_told, .ref a_row, .ref a_tape, .int i_taped, .int i_at, .int i_to, .int 0, .ref a_number, .ref a_read, .int i_readMany, .ref a_readBits, .ref a_stands, .ref a_parted, .ref a_bitsWere, .ref a_stood, .ref a_chosen, .ref a_bestChosen, .int 0, .ref a_often, .ref a_sorted, .int i_size, .ref a_risen, .ref a_risenWays])), (a_chosen, .inl (cI, 8, .inl (upd (upd (upd (upd (upd f_1 2 4) 2 3) 2 2) 2 1) 2 0))), (a_bestChosen, .inl (cI, 8, .inl g_2))] (hP.sub [2, 0, 1] rfl) (hD.sub [2, 0, 1] (by decide) rfl) (⟨(upd (upd (upd (upd (upd f_1 2 4) 2 3) 2 2) 2 1) 2 0), g_2, rfl⟩) dX9_triesBits_195
                                                    ·
                                                      exact absurd c101 (by decide +kernel)
                                                  ·
                                                    exact absurd c161 (by decide +kernel)
                                            ·
                                              exact absurd c161 (by decide +kernel)
                                      ·
                                        exact absurd c161 (by decide +kernel)
                                ·
                                  exact absurd c161 (by decide +kernel)
                          ·
                            exact absurd c161 (by decide +kernel)
                    ·
                      exact absurd c161 (by decide +kernel)
              ·
                exact absurd c110 (by decide +kernel)
          ·
            exact absurd c110 (by decide +kernel)
      ·
        exact absurd c67 (by decide +kernel)
    ·
      exact absurd c19 (by decide +kernel)
  ·
    exact absurd c4 (by decide +kernel)
set_option maxHeartbeats 4000000 in
set_option maxRecDepth 100000 in
theorem k0_X9_triesBits_1 (l : Launch) (D : va_G) (cI cJ : ClassId) (m0 : Nat) (a_row : Nat) (a_tape : Nat) (a_number : Nat) (a_read : Nat) (a_readBits : Nat) (a_stands : Nat) (a_parted : Nat) (a_bitsWere : Nat) (a_stood : Nat) (a_chosen : Nat) (a_bestChosen : Nat) (a_often : Nat) (a_sorted : Nat) (a_risen : Nat) (a_risenWays : Nat) (i_thrown : Int32) (i_told : Int32) (i_taped : Int32) (i_at : Int32) (i_to : Int32) (i_readMany : Int32) (i_size : Int32) (f : Nat → Int32) (g : Nat → Int32) : ctV l yX9_triesBits wsX9_triesBits ({ frames := 7, cells := 0, slots := 0, locals := 420 } : Room) D (tyIJ cI cJ) [.ref m0, .int 1, .int 128, .int 0] [(m0, .inr (9, [.int i_thrown, .int i_told, .ref a_row, .ref a_tape, .int i_taped, .int i_at, .int i_to, .int 0, .ref a_number, .ref a_read, .int i_readMany, .ref a_readBits, .ref a_stands, .ref a_parted, .ref a_bitsWere, .ref a_stood, .ref a_chosen, .ref a_bestChosen, .int (-1), .ref a_often, .ref a_sorted, .int i_size, .ref a_risen, .ref a_risenWays])), (a_chosen, .inl (cI, 8, .inl f)), (a_bestChosen, .inl (cI, 8, .inl g))] (fun (u : va_W) => ∃ (f' : Nat → Int32) (g' : Nat → Int32), u = [(m0, .inr (9, [.int i_thrown, .int i_told, .ref a_row, .ref a_tape, .int i_taped, .int i_at, .int i_to, .int 0, .ref a_number, .ref a_read, .int i_readMany, .ref a_readBits, .ref a_stands, .ref a_parted, .ref a_bitsWere, .ref a_stood, .ref a_chosen, .ref a_bestChosen, .int 0, .ref a_often, .ref a_sorted, .int i_size, .ref a_risen, .ref a_risenWays])), (a_chosen, .inl (cI, 8, .inl f')), (a_bestChosen, .inl (cI, 8, .inl g'))]) := by
  refine ctV.of (cc := cX9_triesBits) (maxL := 7) (ret := none) (by decide) rfl (Nat.le_of_ble_eq_true rfl) ?_
  intro p e s m below meth c ls A hx hb hr hts hown hml hlocks hname hA hK hN hP hD hS hl
  have hl : lv_has ls 7 [(0, .ref m0), (1, .int 1), (2, .int 128), (3, .int 0)] := hl
  have hown : s.vm.findClass RX9 = some m.cls := hown
  have hi9 : ∀ w ∈ u_ws RX9 TX9 24, w ∈ wsX9_triesBits := by decide +kernel
  have fl162 := hts (.fieldLink RX9 162 "PlaneColumnModel" "fewest" "I") (by decide +kernel)
  have fl70 := hts (.fieldLink RX9 70 "PlaneColumnModel" "chosen" "[I") (by decide +kernel)
  have fl88 := hts (.fieldLink RX9 88 "PlaneColumnModel" "many" "I") (by decide +kernel)
  refine lv_aload_n hx hb dX9_triesBits_0 rfl (lv_at hl 0 rfl) ?_
  refine va_get (ci := 9) (v := .int (-1)) (C := RX9) (T := TX9) (N := 24) hx hb hts hi9 hown hK hP 0 rfl rfl 18 (by decide) fl162 (fun _ h9 => h9) rfl dX9_triesBits_1 ?_
  refine lv_if_lt (tgt := 16) hx hb dX9_triesBits_4 (by decide) (fun c4 => ?_) (fun c4 => ?_)
  ·
    refine lv_iload_n hx hb dX9_triesBits_16 rfl (lv_at hl 1 rfl) ?_
    refine lv_bipush (v := 8) hx hb dX9_triesBits_17 (by decide +kernel) ?_
    refine lv_icmp_ne (tgt := 58) hx hb dX9_triesBits_19 (by decide) (fun c19 => ?_) (fun c19 => ?_)
    ·
      refine lv_iconst (v := 0) hx hb dX9_triesBits_58 (by decide +kernel) ?_
      refine lv_istore (lv' := [(4, .int 0), (0, .ref m0), (1, .int 1), (2, .int 128), (3, .int 0)]) hx hb dX9_triesBits_59 hl (by decide) rfl (fun ls hl => ?_)
      refine lv_iload hx hb dX9_triesBits_61 (lv_at hl 0 rfl) ?_
      refine lv_aload_n hx hb dX9_triesBits_63 rfl (lv_at hl 1 rfl) ?_
      refine va_get (ci := 9) (v := .int 0) (C := RX9) (T := TX9) (N := 24) hx hb hts hi9 hown hK hP 0 rfl rfl 7 (by decide) fl88 (fun _ h9 => h9) rfl dX9_triesBits_64 ?_
      refine lv_icmp_ge (tgt := 95) hx hb dX9_triesBits_67 (by decide) (fun c67 => ?_) (fun c67 => ?_)
      ·
        refine lv_bipush (v := 7) hx hb dX9_triesBits_95 (by decide +kernel) ?_
        refine lv_istore (lv' := [(4, .int 7), (0, .ref m0), (1, .int 1), (2, .int 128), (3, .int 0)]) hx hb dX9_triesBits_97 hl (by decide) rfl (fun ls hl => ?_)
        refine lv_iload hx hb dX9_triesBits_99 (lv_at hl 0 rfl) ?_
        refine lv_if_lt (tgt := 195) hx hb dX9_triesBits_101 (by decide) (fun c101 => ?_) (fun c101 => ?_)
        ·
          exact absurd c101 (by decide +kernel)
        ·
          refine lv_iload_n hx hb dX9_triesBits_104 rfl (lv_at hl 3 rfl) ?_
          refine lv_iload hx hb dX9_triesBits_105 (lv_at hl 0 rfl) ?_
          refine lv_ishr hx hb dX9_triesBits_107 ?_
          refine my_eqi (y := 1) (by decide +kernel) ?_
          refine lv_iconst (v := 1) hx hb dX9_triesBits_108 (by decide +kernel) ?_
          refine lv_iand hx hb dX9_triesBits_109 ?_
          refine my_eqi (y := 1) (by decide +kernel) ?_
          refine lv_if_ne (tgt := 189) hx hb dX9_triesBits_110 (by decide) (fun c110 => ?_) (fun c110 => ?_)
          ·
            refine lv_iinc (v := 6) (lv' := [(4, .int 6), (0, .ref m0), (1, .int 1), (2, .int 128), (3, .int 0)]) hx hb dX9_triesBits_189 hl (k := 0) rfl (by decide +kernel) (by decide) rfl (fun ls hl => ?_)
            refine lv_goto (tgt := 99) hx hb dX9_triesBits_192 (by decide) ?_
            refine lv_iload hx hb dX9_triesBits_99 (lv_at hl 0 rfl) ?_
            refine lv_if_lt (tgt := 195) hx hb dX9_triesBits_101 (by decide) (fun c101 => ?_) (fun c101 => ?_)
            ·
              exact absurd c101 (by decide +kernel)
            ·
              refine lv_iload_n hx hb dX9_triesBits_104 rfl (lv_at hl 3 rfl) ?_
              refine lv_iload hx hb dX9_triesBits_105 (lv_at hl 0 rfl) ?_
              refine lv_ishr hx hb dX9_triesBits_107 ?_
              refine my_eqi (y := 2) (by decide +kernel) ?_
              refine lv_iconst (v := 1) hx hb dX9_triesBits_108 (by decide +kernel) ?_
              refine lv_iand hx hb dX9_triesBits_109 ?_
              refine my_eqi (y := 0) (by decide +kernel) ?_
              refine lv_if_ne (tgt := 189) hx hb dX9_triesBits_110 (by decide) (fun c110 => ?_) (fun c110 => ?_)
              ·
                exact absurd c110 (by decide +kernel)
              ·
                refine lv_aload_n hx hb dX9_triesBits_113 rfl (lv_at hl 1 rfl) ?_
                refine va_get (ci := 9) (v := .ref a_chosen) (C := RX9) (T := TX9) (N := 24) hx hb hts hi9 hown hK hP 0 rfl rfl 16 (by decide) fl70 (fun _ h9 => h9) rfl dX9_triesBits_114 ?_
                refine lv_iload_n hx hb dX9_triesBits_117 rfl (lv_at hl 2 rfl) ?_
                refine lv_iload hx hb dX9_triesBits_118 (lv_at hl 0 rfl) ?_
                refine va_iast hx hb hK hP hD hS 1 0 rfl rfl (vp_in_nI (n := 1) (by omega) (by omega)) dX9_triesBits_120 (fun H locs hP hD hS => ?_)
                have eU : upd f (1 : Int32).toNatClampNeg 6 = upd f 1 6 := by rw [show (1 : Int32).toNatClampNeg = 1 from by decide +kernel]
                rw [eU] at hP hD
                have hP : va_P D vwCl [(m0, .inr (9, [.int i_thrown, .int i_told, .ref a_row, .ref a_tape, .int i_taped, .int i_at, .int i_to, .int 0, .ref a_number, .ref a_read, .int i_readMany, .ref a_readBits, .ref a_stands, .ref a_parted, .ref a_bitsWere, .ref a_stood, .ref a_chosen, .ref a_bestChosen, .int (-1), .ref a_often, .ref a_sorted, .int i_size, .ref a_risen, .ref a_risenWays])), (a_chosen, .inl (cI, 8, .inl (upd f 1 6))), (a_bestChosen, .inl (cI, 8, .inl g))] H := hP
                have hD : va_D A [(m0, .inr (9, [.int i_thrown, .int i_told, .ref a_row, .ref a_tape, .int i_taped, .int i_at, .int i_to, .int 0, .ref a_number, .ref a_read, .int i_readMany, .ref a_readBits, .ref a_stands, .ref a_parted, .ref a_bitsWere, .ref a_stood, .ref a_chosen, .ref a_bestChosen, .int (-1), .ref a_often, .ref a_sorted, .int i_size, .ref a_risen, .ref a_risenWays])), (a_chosen, .inl (cI, 8, .inl (upd f 1 6))), (a_bestChosen, .inl (cI, 8, .inl g))] := hD
                refine lv_aload_n hx hb dX9_triesBits_121 rfl (lv_at hl 1 rfl) ?_
                refine lv_iload hx hb dX9_triesBits_122 (lv_at hl 0 rfl) ?_
                refine my_gpI (my_pV (As := [.int 6]) (rest := []) (ci := 9) ⟨hx, hb, hml, hown, hts⟩ (cwV 1 hts gX9_triesBits_X9_runsOf rfl rfl rfl (by decide +kernel) ⟨Nat.le_of_ble_eq_true rfl, Nat.le_of_ble_eq_true rfl⟩) hN hK hP [0] rfl 0 rfl rfl rfl rfl hl.1 rfl (Nat.le_of_ble_eq_true rfl) dX9_triesBits_124 ⟨Nat.le_of_ble_eq_true rfl, Nat.le_of_ble_eq_true rfl⟩  (k0_X9_runsOf l D cI cJ m0 a_row a_tape a_number a_read a_readBits a_stands a_parted a_bitsWere a_stood a_chosen a_bestChosen a_often a_sorted a_risen a_risenWays i_thrown i_told i_taped i_at i_to i_readMany (-1 : Int32) i_size (6 : Int32))) (fun r hp => ?_)
                obtain rfl := hp
                refine lv_istore (lv' := [(5, .int 0), (4, .int 6), (0, .ref m0), (1, .int 1), (2, .int 128), (3, .int 0)]) hx hb dX9_triesBits_127 hl (by decide) rfl (fun ls hl => ?_)
                refine lv_aload_n hx hb dX9_triesBits_129 rfl (lv_at hl 2 rfl) ?_
                refine lv_iload hx hb dX9_triesBits_130 (lv_at hl 1 rfl) ?_
                refine my_goV (wr := [(a_chosen, .inl (cI, 8, .inl (upd f 1 6))), (a_bestChosen, .inl (cI, 8, .inl g))]) hP hD hS hA [0] [1, 2] rfl rfl (by decide) (by decide) (my_cV (As := [.int 6]) (rest := []) (ci := 9) (wc := [(m0, .inr (9, [.int i_thrown, .int i_told, .ref a_row, .ref a_tape, .int i_taped, .int i_at, .int i_to, .int 0, .ref a_number, .ref a_read, .int i_readMany, .ref a_readBits, .ref a_stands, .ref a_parted, .ref a_bitsWere, .ref a_stood, .ref a_chosen, .ref a_bestChosen, .int (-1), .ref a_often, .ref a_sorted, .int i_size, .ref a_risen, .ref a_risenWays]))]) ⟨hx, hb, hml, hown, hts⟩ (cwV 1 hts gX9_triesBits_X9_parts rfl rfl rfl (by decide +kernel) ⟨Nat.le_of_ble_eq_true rfl, Nat.le_of_ble_eq_true rfl⟩) hN hK hP hD [0] rfl (by decide) rfl 0 rfl rfl rfl rfl hl.1 rfl (Nat.le_of_ble_eq_true rfl) dX9_triesBits_132 ⟨Nat.le_of_ble_eq_true rfl, Nat.le_of_ble_eq_true rfl⟩  ((k0_X9_parts l D cI cJ m0 a_row a_tape a_number a_read a_readBits a_stands a_parted a_bitsWere a_stood a_chosen a_bestChosen a_often a_sorted a_risen a_risenWays i_thrown i_told i_taped i_at i_to i_readMany (-1 : Int32) i_size (6 : Int32)) _)) (fun u H locs hp hP hD hS => ?_)
                obtain rfl := hp
                have hP : va_P D vwCl [(a_chosen, .inl (cI, 8, .inl (upd f 1 6))), (a_bestChosen, .inl (cI, 8, .inl g)), (m0, .inr (9, [.int i_thrown, .int i_told, .ref a_row, .ref a_tape, .int i_taped, .int i_at, .int i_to, .int 0, .ref a_number, .ref a_read, .int i_readMany, .ref a_readBits, .ref a_stands, .ref a_parted, .ref a_bitsWere, .ref a_stood, .ref a_chosen, .ref a_bestChosen, .int (-1), .ref a_often, .ref a_sorted, .int i_size, .ref a_risen, .ref a_risenWays]))] H := hP
                have hD : va_D A [(a_chosen, .inl (cI, 8, .inl (upd f 1 6))), (a_bestChosen, .inl (cI, 8, .inl g)), (m0, .inr (9, [.int i_thrown, .int i_told, .ref a_row, .ref a_tape, .int i_taped, .int i_at, .int i_to, .int 0, .ref a_number, .ref a_read, .int i_readMany, .ref a_readBits, .ref a_stands, .ref a_parted, .ref a_bitsWere, .ref a_stood, .ref a_chosen, .ref a_bestChosen, .int (-1), .ref a_often, .ref a_sorted, .int i_size, .ref a_risen, .ref a_risenWays]))] := hD
                refine lv_aload_n hx hb dX9_triesBits_135 rfl (lv_at hl 2 rfl) ?_
                refine lv_iload_n hx hb dX9_triesBits_136 rfl (lv_at hl 3 rfl) ?_
                refine lv_iconst (v := 1) hx hb dX9_triesBits_137 (by decide +kernel) ?_
                refine lv_iadd hx hb dX9_triesBits_138 ?_
                refine my_eqi (y := 2) (by decide +kernel) ?_
                refine lv_iload_n hx hb dX9_triesBits_139 rfl (lv_at hl 4 rfl) ?_
                refine lv_iconst (v := 1) hx hb dX9_triesBits_140 (by decide +kernel) ?_
                refine lv_iload hx hb dX9_triesBits_141 (lv_at hl 1 rfl) ?_
                refine lv_ishl hx hb dX9_triesBits_143 ?_
                refine my_eqi (y := 64) (by decide +kernel) ?_
                refine lv_ior hx hb dX9_triesBits_144 ?_
                refine my_eqi (y := 192) (by decide +kernel) ?_
                refine lv_iload_n hx hb dX9_triesBits_145 rfl (lv_at hl 5 rfl) ?_
                refine lv_iload hx hb dX9_triesBits_146 (lv_at hl 0 rfl) ?_
                refine lv_iadd hx hb dX9_triesBits_148 ?_
                refine my_eqi (y := 0) (by decide +kernel) ?_
                refine my_goV (wr := []) hP hD hS hA [2, 0, 1] [] rfl rfl (by decide) (by decide) (my_cV (As := [.int 2, .int 192, .int 0]) (rest := []) (ci := 9) (wc := [(m0, .inr (9, [.int i_thrown, .int i_told, .ref a_row, .ref a_tape, .int i_taped, .int i_at, .int i_to, .int 0, .ref a_number, .ref a_read, .int i_readMany, .ref a_readBits, .ref a_stands, .ref a_parted, .ref a_bitsWere, .ref a_stood, .ref a_chosen, .ref a_bestChosen, .int (-1), .ref a_often, .ref a_sorted, .int i_size, .ref a_risen, .ref a_risenWays])), (a_chosen, .inl (cI, 8, .inl (upd f 1 6))), (a_bestChosen, .inl (cI, 8, .inl g))]) ⟨hx, hb, hml, hown, hts⟩ (cwV 3 hts gX9_triesBits_X9_triesBits rfl rfl rfl (by decide +kernel) ⟨Nat.le_of_ble_eq_true rfl, Nat.le_of_ble_eq_true rfl⟩) hN hK hP hD [2, 0, 1] rfl (by decide) rfl 2 rfl rfl rfl rfl hl.1 rfl (Nat.le_of_ble_eq_true rfl) dX9_triesBits_149 ⟨Nat.le_of_ble_eq_true rfl, Nat.le_of_ble_eq_true rfl⟩  ((k0_X9_triesBits_2 l D cI cJ m0 a_row a_tape a_number a_read a_readBits a_stands a_parted a_bitsWere a_stood a_chosen a_bestChosen a_often a_sorted a_risen a_risenWays i_thrown i_told i_taped i_at i_to i_readMany i_size (upd f 1 6) g) _)) (fun u H locs hp hP hD hS => ?_)
                obtain ⟨f_1, g_2, rfl⟩ := hp
                have hP : va_P D vwCl [(m0, .inr (9, [.int i_thrown, .int i_told, .ref a_row, .ref a_tape, .int i_taped, .int i_at, .int i_to, .int 0, .ref a_number, .ref a_read, .int i_readMany, .ref a_readBits, .ref a_stands, .ref a_parted, .ref a_bitsWere, .ref a_stood, .ref a_chosen, .ref a_bestChosen, .int 0, .ref a_often, .ref a_sorted, .int i_size, .ref a_risen, .ref a_risenWays])), (a_chosen, .inl (cI, 8, .inl f_1)), (a_bestChosen, .inl (cI, 8, .inl g_2))] H := hP
                have hD : va_D A [(m0, .inr (9, [.int i_thrown, .int i_told, .ref a_row, .ref a_tape, .int i_taped, .int i_at, .int i_to, .int 0, .ref a_number, .ref a_read, .int i_readMany, .ref a_readBits, .ref a_stands, .ref a_parted, .ref a_bitsWere, .ref a_stood, .ref a_chosen, .ref a_bestChosen, .int 0, .ref a_often, .ref a_sorted, .int i_size, .ref a_risen, .ref a_risenWays])), (a_chosen, .inl (cI, 8, .inl f_1)), (a_bestChosen, .inl (cI, 8, .inl g_2))] := hD
                refine lv_iconst (v := 0) hx hb dX9_triesBits_152 (by decide +kernel) ?_
                refine lv_istore (lv' := [(6, .int 0), (5, .int 0), (4, .int 6), (0, .ref m0), (1, .int 1), (2, .int 128), (3, .int 0)]) hx hb dX9_triesBits_153 hl (by decide) rfl (fun ls hl => ?_)
                refine lv_iload hx hb dX9_triesBits_155 (lv_at hl 0 rfl) ?_
                refine lv_aload_n hx hb dX9_triesBits_157 rfl (lv_at hl 3 rfl) ?_
                refine va_get (ci := 9) (v := .int 0) (C := RX9) (T := TX9) (N := 24) hx hb hts hi9 hown hK hP 0 rfl rfl 7 (by decide) fl88 (fun _ h9 => h9) rfl dX9_triesBits_158 ?_
                refine lv_icmp_ge (tgt := 189) hx hb dX9_triesBits_161 (by decide) (fun c161 => ?_) (fun c161 => ?_)
                ·
                  refine lv_iinc (v := 5) (lv' := [(4, .int 5), (6, .int 0), (5, .int 0), (0, .ref m0), (1, .int 1), (2, .int 128), (3, .int 0)]) hx hb dX9_triesBits_189 hl (k := 2) rfl (by decide +kernel) (by decide) rfl (fun ls hl => ?_)
                  refine lv_goto (tgt := 99) hx hb dX9_triesBits_192 (by decide) ?_
                  refine lv_iload hx hb dX9_triesBits_99 (lv_at hl 0 rfl) ?_
                  refine lv_if_lt (tgt := 195) hx hb dX9_triesBits_101 (by decide) (fun c101 => ?_) (fun c101 => ?_)
                  ·
                    exact absurd c101 (by decide +kernel)
                  ·
                    refine lv_iload_n hx hb dX9_triesBits_104 rfl (lv_at hl 5 rfl) ?_
                    refine lv_iload hx hb dX9_triesBits_105 (lv_at hl 0 rfl) ?_
                    refine lv_ishr hx hb dX9_triesBits_107 ?_
                    refine my_eqi (y := 4) (by decide +kernel) ?_
                    refine lv_iconst (v := 1) hx hb dX9_triesBits_108 (by decide +kernel) ?_
                    refine lv_iand hx hb dX9_triesBits_109 ?_
                    refine my_eqi (y := 0) (by decide +kernel) ?_
                    refine lv_if_ne (tgt := 189) hx hb dX9_triesBits_110 (by decide) (fun c110 => ?_) (fun c110 => ?_)
                    ·
                      exact absurd c110 (by decide +kernel)
                    ·
                      refine lv_aload_n hx hb dX9_triesBits_113 rfl (lv_at hl 3 rfl) ?_
                      refine va_get (ci := 9) (v := .ref a_chosen) (C := RX9) (T := TX9) (N := 24) hx hb hts hi9 hown hK hP 0 rfl rfl 16 (by decide) fl70 (fun _ h9 => h9) rfl dX9_triesBits_114 ?_
                      refine lv_iload_n hx hb dX9_triesBits_117 rfl (lv_at hl 4 rfl) ?_
                      refine lv_iload hx hb dX9_triesBits_118 (lv_at hl 0 rfl) ?_
                      refine va_iast hx hb hK hP hD hS 1 0 rfl rfl (vp_in_nI (n := 1) (by omega) (by omega)) dX9_triesBits_120 (fun H locs hP hD hS => ?_)
                      have eU : upd f_1 (1 : Int32).toNatClampNeg 5 = upd f_1 1 5 := by rw [show (1 : Int32).toNatClampNeg = 1 from by decide +kernel]
                      rw [eU] at hP hD
                      have hP : va_P D vwCl [(m0, .inr (9, [.int i_thrown, .int i_told, .ref a_row, .ref a_tape, .int i_taped, .int i_at, .int i_to, .int 0, .ref a_number, .ref a_read, .int i_readMany, .ref a_readBits, .ref a_stands, .ref a_parted, .ref a_bitsWere, .ref a_stood, .ref a_chosen, .ref a_bestChosen, .int 0, .ref a_often, .ref a_sorted, .int i_size, .ref a_risen, .ref a_risenWays])), (a_chosen, .inl (cI, 8, .inl (upd f_1 1 5))), (a_bestChosen, .inl (cI, 8, .inl g_2))] H := hP
                      have hD : va_D A [(m0, .inr (9, [.int i_thrown, .int i_told, .ref a_row, .ref a_tape, .int i_taped, .int i_at, .int i_to, .int 0, .ref a_number, .ref a_read, .int i_readMany, .ref a_readBits, .ref a_stands, .ref a_parted, .ref a_bitsWere, .ref a_stood, .ref a_chosen, .ref a_bestChosen, .int 0, .ref a_often, .ref a_sorted, .int i_size, .ref a_risen, .ref a_risenWays])), (a_chosen, .inl (cI, 8, .inl (upd f_1 1 5))), (a_bestChosen, .inl (cI, 8, .inl g_2))] := hD
                      refine lv_aload_n hx hb dX9_triesBits_121 rfl (lv_at hl 3 rfl) ?_
                      refine lv_iload hx hb dX9_triesBits_122 (lv_at hl 0 rfl) ?_
                      refine my_gpI (my_pV (As := [.int 5]) (rest := []) (ci := 9) ⟨hx, hb, hml, hown, hts⟩ (cwV 1 hts gX9_triesBits_X9_runsOf rfl rfl rfl (by decide +kernel) ⟨Nat.le_of_ble_eq_true rfl, Nat.le_of_ble_eq_true rfl⟩) hN hK hP [0] rfl 0 rfl rfl rfl rfl hl.1 rfl (Nat.le_of_ble_eq_true rfl) dX9_triesBits_124 ⟨Nat.le_of_ble_eq_true rfl, Nat.le_of_ble_eq_true rfl⟩  (k0_X9_runsOf l D cI cJ m0 a_row a_tape a_number a_read a_readBits a_stands a_parted a_bitsWere a_stood a_chosen a_bestChosen a_often a_sorted a_risen a_risenWays i_thrown i_told i_taped i_at i_to i_readMany (0 : Int32) i_size (5 : Int32))) (fun r hp => ?_)
                      obtain rfl := hp
                      refine lv_istore (lv' := [(5, .int 0), (4, .int 5), (6, .int 0), (0, .ref m0), (1, .int 1), (2, .int 128), (3, .int 0)]) hx hb dX9_triesBits_127 hl (by decide) rfl (fun ls hl => ?_)
                      refine lv_aload_n hx hb dX9_triesBits_129 rfl (lv_at hl 3 rfl) ?_
                      refine lv_iload hx hb dX9_triesBits_130 (lv_at hl 1 rfl) ?_
                      refine my_goV (wr := [(a_chosen, .inl (cI, 8, .inl (upd f_1 1 5))), (a_bestChosen, .inl (cI, 8, .inl g_2))]) hP hD hS hA [0] [1, 2] rfl rfl (by decide) (by decide) (my_cV (As := [.int 5]) (rest := []) (ci := 9) (wc := [(m0, .inr (9, [.int i_thrown, .int i_told, .ref a_row, .ref a_tape, .int i_taped, .int i_at, .int i_to, .int 0, .ref a_number, .ref a_read, .int i_readMany, .ref a_readBits, .ref a_stands, .ref a_parted, .ref a_bitsWere, .ref a_stood, .ref a_chosen, .ref a_bestChosen, .int 0, .ref a_often, .ref a_sorted, .int i_size, .ref a_risen, .ref a_risenWays]))]) ⟨hx, hb, hml, hown, hts⟩ (cwV 1 hts gX9_triesBits_X9_parts rfl rfl rfl (by decide +kernel) ⟨Nat.le_of_ble_eq_true rfl, Nat.le_of_ble_eq_true rfl⟩) hN hK hP hD [0] rfl (by decide) rfl 0 rfl rfl rfl rfl hl.1 rfl (Nat.le_of_ble_eq_true rfl) dX9_triesBits_132 ⟨Nat.le_of_ble_eq_true rfl, Nat.le_of_ble_eq_true rfl⟩  ((k0_X9_parts l D cI cJ m0 a_row a_tape a_number a_read a_readBits a_stands a_parted a_bitsWere a_stood a_chosen a_bestChosen a_often a_sorted a_risen a_risenWays i_thrown i_told i_taped i_at i_to i_readMany (0 : Int32) i_size (5 : Int32)) _)) (fun u H locs hp hP hD hS => ?_)
                      obtain rfl := hp
                      have hP : va_P D vwCl [(a_chosen, .inl (cI, 8, .inl (upd f_1 1 5))), (a_bestChosen, .inl (cI, 8, .inl g_2)), (m0, .inr (9, [.int i_thrown, .int i_told, .ref a_row, .ref a_tape, .int i_taped, .int i_at, .int i_to, .int 0, .ref a_number, .ref a_read, .int i_readMany, .ref a_readBits, .ref a_stands, .ref a_parted, .ref a_bitsWere, .ref a_stood, .ref a_chosen, .ref a_bestChosen, .int 0, .ref a_often, .ref a_sorted, .int i_size, .ref a_risen, .ref a_risenWays]))] H := hP
                      have hD : va_D A [(a_chosen, .inl (cI, 8, .inl (upd f_1 1 5))), (a_bestChosen, .inl (cI, 8, .inl g_2)), (m0, .inr (9, [.int i_thrown, .int i_told, .ref a_row, .ref a_tape, .int i_taped, .int i_at, .int i_to, .int 0, .ref a_number, .ref a_read, .int i_readMany, .ref a_readBits, .ref a_stands, .ref a_parted, .ref a_bitsWere, .ref a_stood, .ref a_chosen, .ref a_bestChosen, .int 0, .ref a_often, .ref a_sorted, .int i_size, .ref a_risen, .ref a_risenWays]))] := hD
                      refine lv_aload_n hx hb dX9_triesBits_135 rfl (lv_at hl 3 rfl) ?_
                      refine lv_iload_n hx hb dX9_triesBits_136 rfl (lv_at hl 4 rfl) ?_
                      refine lv_iconst (v := 1) hx hb dX9_triesBits_137 (by decide +kernel) ?_
                      refine lv_iadd hx hb dX9_triesBits_138 ?_
                      refine my_eqi (y := 2) (by decide +kernel) ?_
                      refine lv_iload_n hx hb dX9_triesBits_139 rfl (lv_at hl 5 rfl) ?_
                      refine lv_iconst (v := 1) hx hb dX9_triesBits_140 (by decide +kernel) ?_
                      refine lv_iload hx hb dX9_triesBits_141 (lv_at hl 1 rfl) ?_
                      refine lv_ishl hx hb dX9_triesBits_143 ?_
                      refine my_eqi (y := 32) (by decide +kernel) ?_
                      refine lv_ior hx hb dX9_triesBits_144 ?_
                      refine my_eqi (y := 160) (by decide +kernel) ?_
                      refine lv_iload_n hx hb dX9_triesBits_145 rfl (lv_at hl 6 rfl) ?_
                      refine lv_iload hx hb dX9_triesBits_146 (lv_at hl 0 rfl) ?_
                      refine lv_iadd hx hb dX9_triesBits_148 ?_
                      refine my_eqi (y := 0) (by decide +kernel) ?_
                      refine my_goV (wr := [(a_chosen, .inl (cI, 8, .inl (upd f_1 1 5))), (a_bestChosen, .inl (cI, 8, .inl g_2))]) hP hD hS hA [2] [0, 1] rfl rfl (by decide) (by decide) (my_cV (As := [.int 2, .int 160, .int 0]) (rest := []) (ci := 9) (wc := [(m0, .inr (9, [.int i_thrown, .int i_told, .ref a_row, .ref a_tape, .int i_taped, .int i_at, .int i_to, .int 0, .ref a_number, .ref a_read, .int i_readMany, .ref a_readBits, .ref a_stands, .ref a_parted, .ref a_bitsWere, .ref a_stood, .ref a_chosen, .ref a_bestChosen, .int 0, .ref a_often, .ref a_sorted, .int i_size, .ref a_risen, .ref a_risenWays]))]) ⟨hx, hb, hml, hown, hts⟩ (cwV 3 hts gX9_triesBits_X9_triesBits rfl rfl rfl (by decide +kernel) ⟨Nat.le_of_ble_eq_true rfl, Nat.le_of_ble_eq_true rfl⟩) hN hK hP hD [2] rfl (by decide) rfl 2 rfl rfl rfl rfl hl.1 rfl (Nat.le_of_ble_eq_true rfl) dX9_triesBits_149 ⟨Nat.le_of_ble_eq_true rfl, Nat.le_of_ble_eq_true rfl⟩  ((kq_X9_triesBits l D cI cJ m0 a_row a_tape a_number a_read a_readBits a_stands a_parted a_bitsWere a_stood a_chosen a_bestChosen a_often a_sorted a_risen a_risenWays i_thrown i_told i_taped i_at i_to i_readMany i_size (2 : Int32) (160 : Int32)) _)) (fun u H locs hp hP hD hS => ?_)
                      obtain rfl := hp
                      have hP : va_P D vwCl [(a_chosen, .inl (cI, 8, .inl (upd f_1 1 5))), (a_bestChosen, .inl (cI, 8, .inl g_2)), (m0, .inr (9, [.int i_thrown, .int i_told, .ref a_row, .ref a_tape, .int i_taped, .int i_at, .int i_to, .int 0, .ref a_number, .ref a_read, .int i_readMany, .ref a_readBits, .ref a_stands, .ref a_parted, .ref a_bitsWere, .ref a_stood, .ref a_chosen, .ref a_bestChosen, .int 0, .ref a_often, .ref a_sorted, .int i_size, .ref a_risen, .ref a_risenWays]))] H := hP
                      have hD : va_D A [(a_chosen, .inl (cI, 8, .inl (upd f_1 1 5))), (a_bestChosen, .inl (cI, 8, .inl g_2)), (m0, .inr (9, [.int i_thrown, .int i_told, .ref a_row, .ref a_tape, .int i_taped, .int i_at, .int i_to, .int 0, .ref a_number, .ref a_read, .int i_readMany, .ref a_readBits, .ref a_stands, .ref a_parted, .ref a_bitsWere, .ref a_stood, .ref a_chosen, .ref a_bestChosen, .int 0, .ref a_often, .ref a_sorted, .int i_size, .ref a_risen, .ref a_risenWays]))] := hD
                      refine lv_iconst (v := 0) hx hb dX9_triesBits_152 (by decide +kernel) ?_
                      refine lv_istore (lv' := [(6, .int 0), (5, .int 0), (4, .int 5), (0, .ref m0), (1, .int 1), (2, .int 128), (3, .int 0)]) hx hb dX9_triesBits_153 hl (by decide) rfl (fun ls hl => ?_)
                      refine lv_iload hx hb dX9_triesBits_155 (lv_at hl 0 rfl) ?_
                      refine lv_aload_n hx hb dX9_triesBits_157 rfl (lv_at hl 3 rfl) ?_
                      refine va_get (ci := 9) (v := .int 0) (C := RX9) (T := TX9) (N := 24) hx hb hts hi9 hown hK hP 2 rfl rfl 7 (by decide) fl88 (fun _ h9 => h9) rfl dX9_triesBits_158 ?_
                      refine lv_icmp_ge (tgt := 189) hx hb dX9_triesBits_161 (by decide) (fun c161 => ?_) (fun c161 => ?_)
                      ·
                        refine lv_iinc (v := 4) (lv' := [(4, .int 4), (6, .int 0), (5, .int 0), (0, .ref m0), (1, .int 1), (2, .int 128), (3, .int 0)]) hx hb dX9_triesBits_189 hl (k := 2) rfl (by decide +kernel) (by decide) rfl (fun ls hl => ?_)
                        refine lv_goto (tgt := 99) hx hb dX9_triesBits_192 (by decide) ?_
                        refine lv_iload hx hb dX9_triesBits_99 (lv_at hl 0 rfl) ?_
                        refine lv_if_lt (tgt := 195) hx hb dX9_triesBits_101 (by decide) (fun c101 => ?_) (fun c101 => ?_)
                        ·
                          exact absurd c101 (by decide +kernel)
                        ·
                          refine lv_iload_n hx hb dX9_triesBits_104 rfl (lv_at hl 5 rfl) ?_
                          refine lv_iload hx hb dX9_triesBits_105 (lv_at hl 0 rfl) ?_
                          refine lv_ishr hx hb dX9_triesBits_107 ?_
                          refine my_eqi (y := 8) (by decide +kernel) ?_
                          refine lv_iconst (v := 1) hx hb dX9_triesBits_108 (by decide +kernel) ?_
                          refine lv_iand hx hb dX9_triesBits_109 ?_
                          refine my_eqi (y := 0) (by decide +kernel) ?_
                          refine lv_if_ne (tgt := 189) hx hb dX9_triesBits_110 (by decide) (fun c110 => ?_) (fun c110 => ?_)
                          ·
                            exact absurd c110 (by decide +kernel)
                          ·
                            refine lv_aload_n hx hb dX9_triesBits_113 rfl (lv_at hl 3 rfl) ?_
                            refine va_get (ci := 9) (v := .ref a_chosen) (C := RX9) (T := TX9) (N := 24) hx hb hts hi9 hown hK hP 2 rfl rfl 16 (by decide) fl70 (fun _ h9 => h9) rfl dX9_triesBits_114 ?_
                            refine lv_iload_n hx hb dX9_triesBits_117 rfl (lv_at hl 4 rfl) ?_
                            refine lv_iload hx hb dX9_triesBits_118 (lv_at hl 0 rfl) ?_
                            refine va_iast hx hb hK hP hD hS 0 0 rfl rfl (vp_in_nI (n := 1) (by omega) (by omega)) dX9_triesBits_120 (fun H locs hP hD hS => ?_)
                            have eU : upd (upd f_1 1 5) (1 : Int32).toNatClampNeg 4 = upd (upd f_1 1 5) 1 4 := by rw [show (1 : Int32).toNatClampNeg = 1 from by decide +kernel]
                            rw [eU] at hP hD
                            have hP : va_P D vwCl [(a_chosen, .inl (cI, 8, .inl (upd (upd f_1 1 5) 1 4))), (a_bestChosen, .inl (cI, 8, .inl g_2)), (m0, .inr (9, [.int i_thrown, .int i_told, .ref a_row, .ref a_tape, .int i_taped, .int i_at, .int i_to, .int 0, .ref a_number, .ref a_read, .int i_readMany, .ref a_readBits, .ref a_stands, .ref a_parted, .ref a_bitsWere, .ref a_stood, .ref a_chosen, .ref a_bestChosen, .int 0, .ref a_often, .ref a_sorted, .int i_size, .ref a_risen, .ref a_risenWays]))] H := hP
                            have hD : va_D A [(a_chosen, .inl (cI, 8, .inl (upd (upd f_1 1 5) 1 4))), (a_bestChosen, .inl (cI, 8, .inl g_2)), (m0, .inr (9, [.int i_thrown, .int i_told, .ref a_row, .ref a_tape, .int i_taped, .int i_at, .int i_to, .int 0, .ref a_number, .ref a_read, .int i_readMany, .ref a_readBits, .ref a_stands, .ref a_parted, .ref a_bitsWere, .ref a_stood, .ref a_chosen, .ref a_bestChosen, .int 0, .ref a_often, .ref a_sorted, .int i_size, .ref a_risen, .ref a_risenWays]))] := hD
                            refine lv_aload_n hx hb dX9_triesBits_121 rfl (lv_at hl 3 rfl) ?_
                            refine lv_iload hx hb dX9_triesBits_122 (lv_at hl 0 rfl) ?_
                            refine my_gpI (my_pV (As := [.int 4]) (rest := []) (ci := 9) ⟨hx, hb, hml, hown, hts⟩ (cwV 1 hts gX9_triesBits_X9_runsOf rfl rfl rfl (by decide +kernel) ⟨Nat.le_of_ble_eq_true rfl, Nat.le_of_ble_eq_true rfl⟩) hN hK hP [2] rfl 2 rfl rfl rfl rfl hl.1 rfl (Nat.le_of_ble_eq_true rfl) dX9_triesBits_124 ⟨Nat.le_of_ble_eq_true rfl, Nat.le_of_ble_eq_true rfl⟩  (k0_X9_runsOf l D cI cJ m0 a_row a_tape a_number a_read a_readBits a_stands a_parted a_bitsWere a_stood a_chosen a_bestChosen a_often a_sorted a_risen a_risenWays i_thrown i_told i_taped i_at i_to i_readMany (0 : Int32) i_size (4 : Int32))) (fun r hp => ?_)
                            obtain rfl := hp
                            refine lv_istore (lv' := [(5, .int 0), (4, .int 4), (6, .int 0), (0, .ref m0), (1, .int 1), (2, .int 128), (3, .int 0)]) hx hb dX9_triesBits_127 hl (by decide) rfl (fun ls hl => ?_)
                            refine lv_aload_n hx hb dX9_triesBits_129 rfl (lv_at hl 3 rfl) ?_
                            refine lv_iload hx hb dX9_triesBits_130 (lv_at hl 1 rfl) ?_
                            refine my_goV (wr := [(a_chosen, .inl (cI, 8, .inl (upd (upd f_1 1 5) 1 4))), (a_bestChosen, .inl (cI, 8, .inl g_2))]) hP hD hS hA [2] [0, 1] rfl rfl (by decide) (by decide) (my_cV (As := [.int 4]) (rest := []) (ci := 9) (wc := [(m0, .inr (9, [.int i_thrown, .int i_told, .ref a_row, .ref a_tape, .int i_taped, .int i_at, .int i_to, .int 0, .ref a_number, .ref a_read, .int i_readMany, .ref a_readBits, .ref a_stands, .ref a_parted, .ref a_bitsWere, .ref a_stood, .ref a_chosen, .ref a_bestChosen, .int 0, .ref a_often, .ref a_sorted, .int i_size, .ref a_risen, .ref a_risenWays]))]) ⟨hx, hb, hml, hown, hts⟩ (cwV 1 hts gX9_triesBits_X9_parts rfl rfl rfl (by decide +kernel) ⟨Nat.le_of_ble_eq_true rfl, Nat.le_of_ble_eq_true rfl⟩) hN hK hP hD [2] rfl (by decide) rfl 2 rfl rfl rfl rfl hl.1 rfl (Nat.le_of_ble_eq_true rfl) dX9_triesBits_132 ⟨Nat.le_of_ble_eq_true rfl, Nat.le_of_ble_eq_true rfl⟩  ((k0_X9_parts l D cI cJ m0 a_row a_tape a_number a_read a_readBits a_stands a_parted a_bitsWere a_stood a_chosen a_bestChosen a_often a_sorted a_risen a_risenWays i_thrown i_told i_taped i_at i_to i_readMany (0 : Int32) i_size (4 : Int32)) _)) (fun u H locs hp hP hD hS => ?_)
                            obtain rfl := hp
                            have hP : va_P D vwCl [(a_chosen, .inl (cI, 8, .inl (upd (upd f_1 1 5) 1 4))), (a_bestChosen, .inl (cI, 8, .inl g_2)), (m0, .inr (9, [.int i_thrown, .int i_told, .ref a_row, .ref a_tape, .int i_taped, .int i_at, .int i_to, .int 0, .ref a_number, .ref a_read, .int i_readMany, .ref a_readBits, .ref a_stands, .ref a_parted, .ref a_bitsWere, .ref a_stood, .ref a_chosen, .ref a_bestChosen, .int 0, .ref a_often, .ref a_sorted, .int i_size, .ref a_risen, .ref a_risenWays]))] H := hP
                            have hD : va_D A [(a_chosen, .inl (cI, 8, .inl (upd (upd f_1 1 5) 1 4))), (a_bestChosen, .inl (cI, 8, .inl g_2)), (m0, .inr (9, [.int i_thrown, .int i_told, .ref a_row, .ref a_tape, .int i_taped, .int i_at, .int i_to, .int 0, .ref a_number, .ref a_read, .int i_readMany, .ref a_readBits, .ref a_stands, .ref a_parted, .ref a_bitsWere, .ref a_stood, .ref a_chosen, .ref a_bestChosen, .int 0, .ref a_often, .ref a_sorted, .int i_size, .ref a_risen, .ref a_risenWays]))] := hD
                            refine lv_aload_n hx hb dX9_triesBits_135 rfl (lv_at hl 3 rfl) ?_
                            refine lv_iload_n hx hb dX9_triesBits_136 rfl (lv_at hl 4 rfl) ?_
                            refine lv_iconst (v := 1) hx hb dX9_triesBits_137 (by decide +kernel) ?_
                            refine lv_iadd hx hb dX9_triesBits_138 ?_
                            refine my_eqi (y := 2) (by decide +kernel) ?_
                            refine lv_iload_n hx hb dX9_triesBits_139 rfl (lv_at hl 5 rfl) ?_
                            refine lv_iconst (v := 1) hx hb dX9_triesBits_140 (by decide +kernel) ?_
                            refine lv_iload hx hb dX9_triesBits_141 (lv_at hl 1 rfl) ?_
                            refine lv_ishl hx hb dX9_triesBits_143 ?_
                            refine my_eqi (y := 16) (by decide +kernel) ?_
                            refine lv_ior hx hb dX9_triesBits_144 ?_
                            refine my_eqi (y := 144) (by decide +kernel) ?_
                            refine lv_iload_n hx hb dX9_triesBits_145 rfl (lv_at hl 6 rfl) ?_
                            refine lv_iload hx hb dX9_triesBits_146 (lv_at hl 0 rfl) ?_
                            refine lv_iadd hx hb dX9_triesBits_148 ?_
                            refine my_eqi (y := 0) (by decide +kernel) ?_
                            refine my_goV (wr := [(a_chosen, .inl (cI, 8, .inl (upd (upd f_1 1 5) 1 4))), (a_bestChosen, .inl (cI, 8, .inl g_2))]) hP hD hS hA [2] [0, 1] rfl rfl (by decide) (by decide) (my_cV (As := [.int 2, .int 144, .int 0]) (rest := []) (ci := 9) (wc := [(m0, .inr (9, [.int i_thrown, .int i_told, .ref a_row, .ref a_tape, .int i_taped, .int i_at, .int i_to, .int 0, .ref a_number, .ref a_read, .int i_readMany, .ref a_readBits, .ref a_stands, .ref a_parted, .ref a_bitsWere, .ref a_stood, .ref a_chosen, .ref a_bestChosen, .int 0, .ref a_often, .ref a_sorted, .int i_size, .ref a_risen, .ref a_risenWays]))]) ⟨hx, hb, hml, hown, hts⟩ (cwV 3 hts gX9_triesBits_X9_triesBits rfl rfl rfl (by decide +kernel) ⟨Nat.le_of_ble_eq_true rfl, Nat.le_of_ble_eq_true rfl⟩) hN hK hP hD [2] rfl (by decide) rfl 2 rfl rfl rfl rfl hl.1 rfl (Nat.le_of_ble_eq_true rfl) dX9_triesBits_149 ⟨Nat.le_of_ble_eq_true rfl, Nat.le_of_ble_eq_true rfl⟩  ((kq_X9_triesBits l D cI cJ m0 a_row a_tape a_number a_read a_readBits a_stands a_parted a_bitsWere a_stood a_chosen a_bestChosen a_often a_sorted a_risen a_risenWays i_thrown i_told i_taped i_at i_to i_readMany i_size (2 : Int32) (144 : Int32)) _)) (fun u H locs hp hP hD hS => ?_)
                            obtain rfl := hp
                            have hP : va_P D vwCl [(a_chosen, .inl (cI, 8, .inl (upd (upd f_1 1 5) 1 4))), (a_bestChosen, .inl (cI, 8, .inl g_2)), (m0, .inr (9, [.int i_thrown, .int i_told, .ref a_row, .ref a_tape, .int i_taped, .int i_at, .int i_to, .int 0, .ref a_number, .ref a_read, .int i_readMany, .ref a_readBits, .ref a_stands, .ref a_parted, .ref a_bitsWere, .ref a_stood, .ref a_chosen, .ref a_bestChosen, .int 0, .ref a_often, .ref a_sorted, .int i_size, .ref a_risen, .ref a_risenWays]))] H := hP
                            have hD : va_D A [(a_chosen, .inl (cI, 8, .inl (upd (upd f_1 1 5) 1 4))), (a_bestChosen, .inl (cI, 8, .inl g_2)), (m0, .inr (9, [.int i_thrown, .int i_told, .ref a_row, .ref a_tape, .int i_taped, .int i_at, .int i_to, .int 0, .ref a_number, .ref a_read, .int i_readMany, .ref a_readBits, .ref a_stands, .ref a_parted, .ref a_bitsWere, .ref a_stood, .ref a_chosen, .ref a_bestChosen, .int 0, .ref a_often, .ref a_sorted, .int i_size, .ref a_risen, .ref a_risenWays]))] := hD
                            refine lv_iconst (v := 0) hx hb dX9_triesBits_152 (by decide +kernel) ?_
                            refine lv_istore (lv' := [(6, .int 0), (5, .int 0), (4, .int 4), (0, .ref m0), (1, .int 1), (2, .int 128), (3, .int 0)]) hx hb dX9_triesBits_153 hl (by decide) rfl (fun ls hl => ?_)
                            refine lv_iload hx hb dX9_triesBits_155 (lv_at hl 0 rfl) ?_
                            refine lv_aload_n hx hb dX9_triesBits_157 rfl (lv_at hl 3 rfl) ?_
                            refine va_get (ci := 9) (v := .int 0) (C := RX9) (T := TX9) (N := 24) hx hb hts hi9 hown hK hP 2 rfl rfl 7 (by decide) fl88 (fun _ h9 => h9) rfl dX9_triesBits_158 ?_
                            refine lv_icmp_ge (tgt := 189) hx hb dX9_triesBits_161 (by decide) (fun c161 => ?_) (fun c161 => ?_)
                            ·
                              refine lv_iinc (v := 3) (lv' := [(4, .int 3), (6, .int 0), (5, .int 0), (0, .ref m0), (1, .int 1), (2, .int 128), (3, .int 0)]) hx hb dX9_triesBits_189 hl (k := 2) rfl (by decide +kernel) (by decide) rfl (fun ls hl => ?_)
                              refine lv_goto (tgt := 99) hx hb dX9_triesBits_192 (by decide) ?_
                              refine lv_iload hx hb dX9_triesBits_99 (lv_at hl 0 rfl) ?_
                              refine lv_if_lt (tgt := 195) hx hb dX9_triesBits_101 (by decide) (fun c101 => ?_) (fun c101 => ?_)
                              ·
                                exact absurd c101 (by decide +kernel)
                              ·
                                refine lv_iload_n hx hb dX9_triesBits_104 rfl (lv_at hl 5 rfl) ?_
                                refine lv_iload hx hb dX9_triesBits_105 (lv_at hl 0 rfl) ?_
                                refine lv_ishr hx hb dX9_triesBits_107 ?_
                                refine my_eqi (y := 16) (by decide +kernel) ?_
                                refine lv_iconst (v := 1) hx hb dX9_triesBits_108 (by decide +kernel) ?_
                                refine lv_iand hx hb dX9_triesBits_109 ?_
                                refine my_eqi (y := 0) (by decide +kernel) ?_
                                refine lv_if_ne (tgt := 189) hx hb dX9_triesBits_110 (by decide) (fun c110 => ?_) (fun c110 => ?_)
                                ·
                                  exact absurd c110 (by decide +kernel)
                                ·
                                  refine lv_aload_n hx hb dX9_triesBits_113 rfl (lv_at hl 3 rfl) ?_
                                  refine va_get (ci := 9) (v := .ref a_chosen) (C := RX9) (T := TX9) (N := 24) hx hb hts hi9 hown hK hP 2 rfl rfl 16 (by decide) fl70 (fun _ h9 => h9) rfl dX9_triesBits_114 ?_
                                  refine lv_iload_n hx hb dX9_triesBits_117 rfl (lv_at hl 4 rfl) ?_
                                  refine lv_iload hx hb dX9_triesBits_118 (lv_at hl 0 rfl) ?_
                                  refine va_iast hx hb hK hP hD hS 0 0 rfl rfl (vp_in_nI (n := 1) (by omega) (by omega)) dX9_triesBits_120 (fun H locs hP hD hS => ?_)
                                  have eU : upd (upd (upd f_1 1 5) 1 4) (1 : Int32).toNatClampNeg 3 = upd (upd (upd f_1 1 5) 1 4) 1 3 := by rw [show (1 : Int32).toNatClampNeg = 1 from by decide +kernel]
                                  rw [eU] at hP hD
                                  have hP : va_P D vwCl [(a_chosen, .inl (cI, 8, .inl (upd (upd (upd f_1 1 5) 1 4) 1 3))), (a_bestChosen, .inl (cI, 8, .inl g_2)), (m0, .inr (9, [.int i_thrown, .int i_told, .ref a_row, .ref a_tape, .int i_taped, .int i_at, .int i_to, .int 0, .ref a_number, .ref a_read, .int i_readMany, .ref a_readBits, .ref a_stands, .ref a_parted, .ref a_bitsWere, .ref a_stood, .ref a_chosen, .ref a_bestChosen, .int 0, .ref a_often, .ref a_sorted, .int i_size, .ref a_risen, .ref a_risenWays]))] H := hP
                                  have hD : va_D A [(a_chosen, .inl (cI, 8, .inl (upd (upd (upd f_1 1 5) 1 4) 1 3))), (a_bestChosen, .inl (cI, 8, .inl g_2)), (m0, .inr (9, [.int i_thrown, .int i_told, .ref a_row, .ref a_tape, .int i_taped, .int i_at, .int i_to, .int 0, .ref a_number, .ref a_read, .int i_readMany, .ref a_readBits, .ref a_stands, .ref a_parted, .ref a_bitsWere, .ref a_stood, .ref a_chosen, .ref a_bestChosen, .int 0, .ref a_often, .ref a_sorted, .int i_size, .ref a_risen, .ref a_risenWays]))] := hD
                                  refine lv_aload_n hx hb dX9_triesBits_121 rfl (lv_at hl 3 rfl) ?_
                                  refine lv_iload hx hb dX9_triesBits_122 (lv_at hl 0 rfl) ?_
                                  refine my_gpI (my_pV (As := [.int 3]) (rest := []) (ci := 9) ⟨hx, hb, hml, hown, hts⟩ (cwV 1 hts gX9_triesBits_X9_runsOf rfl rfl rfl (by decide +kernel) ⟨Nat.le_of_ble_eq_true rfl, Nat.le_of_ble_eq_true rfl⟩) hN hK hP [2] rfl 2 rfl rfl rfl rfl hl.1 rfl (Nat.le_of_ble_eq_true rfl) dX9_triesBits_124 ⟨Nat.le_of_ble_eq_true rfl, Nat.le_of_ble_eq_true rfl⟩  (k0_X9_runsOf l D cI cJ m0 a_row a_tape a_number a_read a_readBits a_stands a_parted a_bitsWere a_stood a_chosen a_bestChosen a_often a_sorted a_risen a_risenWays i_thrown i_told i_taped i_at i_to i_readMany (0 : Int32) i_size (3 : Int32))) (fun r hp => ?_)
                                  obtain rfl := hp
                                  refine lv_istore (lv' := [(5, .int 0), (4, .int 3), (6, .int 0), (0, .ref m0), (1, .int 1), (2, .int 128), (3, .int 0)]) hx hb dX9_triesBits_127 hl (by decide) rfl (fun ls hl => ?_)
                                  refine lv_aload_n hx hb dX9_triesBits_129 rfl (lv_at hl 3 rfl) ?_
                                  refine lv_iload hx hb dX9_triesBits_130 (lv_at hl 1 rfl) ?_
                                  refine my_goV (wr := [(a_chosen, .inl (cI, 8, .inl (upd (upd (upd f_1 1 5) 1 4) 1 3))), (a_bestChosen, .inl (cI, 8, .inl g_2))]) hP hD hS hA [2] [0, 1] rfl rfl (by decide) (by decide) (my_cV (As := [.int 3]) (rest := []) (ci := 9) (wc := [(m0, .inr (9, [.int i_thrown, .int i_told, .ref a_row, .ref a_tape, .int i_taped, .int i_at, .int i_to, .int 0, .ref a_number, .ref a_read, .int i_readMany, .ref a_readBits, .ref a_stands, .ref a_parted, .ref a_bitsWere, .ref a_stood, .ref a_chosen, .ref a_bestChosen, .int 0, .ref a_often, .ref a_sorted, .int i_size, .ref a_risen, .ref a_risenWays]))]) ⟨hx, hb, hml, hown, hts⟩ (cwV 1 hts gX9_triesBits_X9_parts rfl rfl rfl (by decide +kernel) ⟨Nat.le_of_ble_eq_true rfl, Nat.le_of_ble_eq_true rfl⟩) hN hK hP hD [2] rfl (by decide) rfl 2 rfl rfl rfl rfl hl.1 rfl (Nat.le_of_ble_eq_true rfl) dX9_triesBits_132 ⟨Nat.le_of_ble_eq_true rfl, Nat.le_of_ble_eq_true rfl⟩  ((k0_X9_parts l D cI cJ m0 a_row a_tape a_number a_read a_readBits a_stands a_parted a_bitsWere a_stood a_chosen a_bestChosen a_often a_sorted a_risen a_risenWays i_thrown i_told i_taped i_at i_to i_readMany (0 : Int32) i_size (3 : Int32)) _)) (fun u H locs hp hP hD hS => ?_)
                                  obtain rfl := hp
                                  have hP : va_P D vwCl [(a_chosen, .inl (cI, 8, .inl (upd (upd (upd f_1 1 5) 1 4) 1 3))), (a_bestChosen, .inl (cI, 8, .inl g_2)), (m0, .inr (9, [.int i_thrown, .int i_told, .ref a_row, .ref a_tape, .int i_taped, .int i_at, .int i_to, .int 0, .ref a_number, .ref a_read, .int i_readMany, .ref a_readBits, .ref a_stands, .ref a_parted, .ref a_bitsWere, .ref a_stood, .ref a_chosen, .ref a_bestChosen, .int 0, .ref a_often, .ref a_sorted, .int i_size, .ref a_risen, .ref a_risenWays]))] H := hP
                                  have hD : va_D A [(a_chosen, .inl (cI, 8, .inl (upd (upd (upd f_1 1 5) 1 4) 1 3))), (a_bestChosen, .inl (cI, 8, .inl g_2)), (m0, .inr (9, [.int i_thrown, .int i_told, .ref a_row, .ref a_tape, .int i_taped, .int i_at, .int i_to, .int 0, .ref a_number, .ref a_read, .int i_readMany, .ref a_readBits, .ref a_stands, .ref a_parted, .ref a_bitsWere, .ref a_stood, .ref a_chosen, .ref a_bestChosen, .int 0, .ref a_often, .ref a_sorted, .int i_size, .ref a_risen, .ref a_risenWays]))] := hD
                                  refine lv_aload_n hx hb dX9_triesBits_135 rfl (lv_at hl 3 rfl) ?_
                                  refine lv_iload_n hx hb dX9_triesBits_136 rfl (lv_at hl 4 rfl) ?_
                                  refine lv_iconst (v := 1) hx hb dX9_triesBits_137 (by decide +kernel) ?_
                                  refine lv_iadd hx hb dX9_triesBits_138 ?_
                                  refine my_eqi (y := 2) (by decide +kernel) ?_
                                  refine lv_iload_n hx hb dX9_triesBits_139 rfl (lv_at hl 5 rfl) ?_
                                  refine lv_iconst (v := 1) hx hb dX9_triesBits_140 (by decide +kernel) ?_
                                  refine lv_iload hx hb dX9_triesBits_141 (lv_at hl 1 rfl) ?_
                                  refine lv_ishl hx hb dX9_triesBits_143 ?_
                                  refine my_eqi (y := 8) (by decide +kernel) ?_
                                  refine lv_ior hx hb dX9_triesBits_144 ?_
                                  refine my_eqi (y := 136) (by decide +kernel) ?_
                                  refine lv_iload_n hx hb dX9_triesBits_145 rfl (lv_at hl 6 rfl) ?_
                                  refine lv_iload hx hb dX9_triesBits_146 (lv_at hl 0 rfl) ?_
                                  refine lv_iadd hx hb dX9_triesBits_148 ?_
                                  refine my_eqi (y := 0) (by decide +kernel) ?_
                                  refine my_goV (wr := [(a_chosen, .inl (cI, 8, .inl (upd (upd (upd f_1 1 5) 1 4) 1 3))), (a_bestChosen, .inl (cI, 8, .inl g_2))]) hP hD hS hA [2] [0, 1] rfl rfl (by decide) (by decide) (my_cV (As := [.int 2, .int 136, .int 0]) (rest := []) (ci := 9) (wc := [(m0, .inr (9, [.int i_thrown, .int i_told, .ref a_row, .ref a_tape, .int i_taped, .int i_at, .int i_to, .int 0, .ref a_number, .ref a_read, .int i_readMany, .ref a_readBits, .ref a_stands, .ref a_parted, .ref a_bitsWere, .ref a_stood, .ref a_chosen, .ref a_bestChosen, .int 0, .ref a_often, .ref a_sorted, .int i_size, .ref a_risen, .ref a_risenWays]))]) ⟨hx, hb, hml, hown, hts⟩ (cwV 3 hts gX9_triesBits_X9_triesBits rfl rfl rfl (by decide +kernel) ⟨Nat.le_of_ble_eq_true rfl, Nat.le_of_ble_eq_true rfl⟩) hN hK hP hD [2] rfl (by decide) rfl 2 rfl rfl rfl rfl hl.1 rfl (Nat.le_of_ble_eq_true rfl) dX9_triesBits_149 ⟨Nat.le_of_ble_eq_true rfl, Nat.le_of_ble_eq_true rfl⟩  ((kq_X9_triesBits l D cI cJ m0 a_row a_tape a_number a_read a_readBits a_stands a_parted a_bitsWere a_stood a_chosen a_bestChosen a_often a_sorted a_risen a_risenWays i_thrown i_told i_taped i_at i_to i_readMany i_size (2 : Int32) (136 : Int32)) _)) (fun u H locs hp hP hD hS => ?_)
                                  obtain rfl := hp
                                  have hP : va_P D vwCl [(a_chosen, .inl (cI, 8, .inl (upd (upd (upd f_1 1 5) 1 4) 1 3))), (a_bestChosen, .inl (cI, 8, .inl g_2)), (m0, .inr (9, [.int i_thrown, .int i_told, .ref a_row, .ref a_tape, .int i_taped, .int i_at, .int i_to, .int 0, .ref a_number, .ref a_read, .int i_readMany, .ref a_readBits, .ref a_stands, .ref a_parted, .ref a_bitsWere, .ref a_stood, .ref a_chosen, .ref a_bestChosen, .int 0, .ref a_often, .ref a_sorted, .int i_size, .ref a_risen, .ref a_risenWays]))] H := hP
                                  have hD : va_D A [(a_chosen, .inl (cI, 8, .inl (upd (upd (upd f_1 1 5) 1 4) 1 3))), (a_bestChosen, .inl (cI, 8, .inl g_2)), (m0, .inr (9, [.int i_thrown, .int i_told, .ref a_row, .ref a_tape, .int i_taped, .int i_at, .int i_to, .int 0, .ref a_number, .ref a_read, .int i_readMany, .ref a_readBits, .ref a_stands, .ref a_parted, .ref a_bitsWere, .ref a_stood, .ref a_chosen, .ref a_bestChosen, .int 0, .ref a_often, .ref a_sorted, .int i_size, .ref a_risen, .ref a_risenWays]))] := hD
                                  refine lv_iconst (v := 0) hx hb dX9_triesBits_152 (by decide +kernel) ?_
                                  refine lv_istore (lv' := [(6, .int 0), (5, .int 0), (4, .int 3), (0, .ref m0), (1, .int 1), (2, .int 128), (3, .int 0)]) hx hb dX9_triesBits_153 hl (by decide) rfl (fun ls hl => ?_)
                                  refine lv_iload hx hb dX9_triesBits_155 (lv_at hl 0 rfl) ?_
                                  refine lv_aload_n hx hb dX9_triesBits_157 rfl (lv_at hl 3 rfl) ?_
                                  refine va_get (ci := 9) (v := .int 0) (C := RX9) (T := TX9) (N := 24) hx hb hts hi9 hown hK hP 2 rfl rfl 7 (by decide) fl88 (fun _ h9 => h9) rfl dX9_triesBits_158 ?_
                                  refine lv_icmp_ge (tgt := 189) hx hb dX9_triesBits_161 (by decide) (fun c161 => ?_) (fun c161 => ?_)
                                  ·
                                    refine lv_iinc (v := 2) (lv' := [(4, .int 2), (6, .int 0), (5, .int 0), (0, .ref m0), (1, .int 1), (2, .int 128), (3, .int 0)]) hx hb dX9_triesBits_189 hl (k := 2) rfl (by decide +kernel) (by decide) rfl (fun ls hl => ?_)
                                    refine lv_goto (tgt := 99) hx hb dX9_triesBits_192 (by decide) ?_
                                    refine lv_iload hx hb dX9_triesBits_99 (lv_at hl 0 rfl) ?_
                                    refine lv_if_lt (tgt := 195) hx hb dX9_triesBits_101 (by decide) (fun c101 => ?_) (fun c101 => ?_)
                                    ·
                                      exact absurd c101 (by decide +kernel)
                                    ·
                                      refine lv_iload_n hx hb dX9_triesBits_104 rfl (lv_at hl 5 rfl) ?_
                                      refine lv_iload hx hb dX9_triesBits_105 (lv_at hl 0 rfl) ?_
                                      refine lv_ishr hx hb dX9_triesBits_107 ?_
                                      refine my_eqi (y := 32) (by decide +kernel) ?_
                                      refine lv_iconst (v := 1) hx hb dX9_triesBits_108 (by decide +kernel) ?_
                                      refine lv_iand hx hb dX9_triesBits_109 ?_
                                      refine my_eqi (y := 0) (by decide +kernel) ?_
                                      refine lv_if_ne (tgt := 189) hx hb dX9_triesBits_110 (by decide) (fun c110 => ?_) (fun c110 => ?_)
                                      ·
                                        exact absurd c110 (by decide +kernel)
                                      ·
                                        refine lv_aload_n hx hb dX9_triesBits_113 rfl (lv_at hl 3 rfl) ?_
                                        refine va_get (ci := 9) (v := .ref a_chosen) (C := RX9) (T := TX9) (N := 24) hx hb hts hi9 hown hK hP 2 rfl rfl 16 (by decide) fl70 (fun _ h9 => h9) rfl dX9_triesBits_114 ?_
                                        refine lv_iload_n hx hb dX9_triesBits_117 rfl (lv_at hl 4 rfl) ?_
                                        refine lv_iload hx hb dX9_triesBits_118 (lv_at hl 0 rfl) ?_
                                        refine va_iast hx hb hK hP hD hS 0 0 rfl rfl (vp_in_nI (n := 1) (by omega) (by omega)) dX9_triesBits_120 (fun H locs hP hD hS => ?_)
                                        have eU : upd (upd (upd (upd f_1 1 5) 1 4) 1 3) (1 : Int32).toNatClampNeg 2 = upd (upd (upd (upd f_1 1 5) 1 4) 1 3) 1 2 := by rw [show (1 : Int32).toNatClampNeg = 1 from by decide +kernel]
                                        rw [eU] at hP hD
                                        have hP : va_P D vwCl [(a_chosen, .inl (cI, 8, .inl (upd (upd (upd (upd f_1 1 5) 1 4) 1 3) 1 2))), (a_bestChosen, .inl (cI, 8, .inl g_2)), (m0, .inr (9, [.int i_thrown, .int i_told, .ref a_row, .ref a_tape, .int i_taped, .int i_at, .int i_to, .int 0, .ref a_number, .ref a_read, .int i_readMany, .ref a_readBits, .ref a_stands, .ref a_parted, .ref a_bitsWere, .ref a_stood, .ref a_chosen, .ref a_bestChosen, .int 0, .ref a_often, .ref a_sorted, .int i_size, .ref a_risen, .ref a_risenWays]))] H := hP
                                        have hD : va_D A [(a_chosen, .inl (cI, 8, .inl (upd (upd (upd (upd f_1 1 5) 1 4) 1 3) 1 2))), (a_bestChosen, .inl (cI, 8, .inl g_2)), (m0, .inr (9, [.int i_thrown, .int i_told, .ref a_row, .ref a_tape, .int i_taped, .int i_at, .int i_to, .int 0, .ref a_number, .ref a_read, .int i_readMany, .ref a_readBits, .ref a_stands, .ref a_parted, .ref a_bitsWere, .ref a_stood, .ref a_chosen, .ref a_bestChosen, .int 0, .ref a_often, .ref a_sorted, .int i_size, .ref a_risen, .ref a_risenWays]))] := hD
                                        refine lv_aload_n hx hb dX9_triesBits_121 rfl (lv_at hl 3 rfl) ?_
                                        refine lv_iload hx hb dX9_triesBits_122 (lv_at hl 0 rfl) ?_
                                        refine my_gpI (my_pV (As := [.int 2]) (rest := []) (ci := 9) ⟨hx, hb, hml, hown, hts⟩ (cwV 1 hts gX9_triesBits_X9_runsOf rfl rfl rfl (by decide +kernel) ⟨Nat.le_of_ble_eq_true rfl, Nat.le_of_ble_eq_true rfl⟩) hN hK hP [2] rfl 2 rfl rfl rfl rfl hl.1 rfl (Nat.le_of_ble_eq_true rfl) dX9_triesBits_124 ⟨Nat.le_of_ble_eq_true rfl, Nat.le_of_ble_eq_true rfl⟩  (k0_X9_runsOf l D cI cJ m0 a_row a_tape a_number a_read a_readBits a_stands a_parted a_bitsWere a_stood a_chosen a_bestChosen a_often a_sorted a_risen a_risenWays i_thrown i_told i_taped i_at i_to i_readMany (0 : Int32) i_size (2 : Int32))) (fun r hp => ?_)
                                        obtain rfl := hp
                                        refine lv_istore (lv' := [(5, .int 0), (4, .int 2), (6, .int 0), (0, .ref m0), (1, .int 1), (2, .int 128), (3, .int 0)]) hx hb dX9_triesBits_127 hl (by decide) rfl (fun ls hl => ?_)
                                        refine lv_aload_n hx hb dX9_triesBits_129 rfl (lv_at hl 3 rfl) ?_
                                        refine lv_iload hx hb dX9_triesBits_130 (lv_at hl 1 rfl) ?_
                                        refine my_goV (wr := [(a_chosen, .inl (cI, 8, .inl (upd (upd (upd (upd f_1 1 5) 1 4) 1 3) 1 2))), (a_bestChosen, .inl (cI, 8, .inl g_2))]) hP hD hS hA [2] [0, 1] rfl rfl (by decide) (by decide) (my_cV (As := [.int 2]) (rest := []) (ci := 9) (wc := [(m0, .inr (9, [.int i_thrown, .int i_told, .ref a_row, .ref a_tape, .int i_taped, .int i_at, .int i_to, .int 0, .ref a_number, .ref a_read, .int i_readMany, .ref a_readBits, .ref a_stands, .ref a_parted, .ref a_bitsWere, .ref a_stood, .ref a_chosen, .ref a_bestChosen, .int 0, .ref a_often, .ref a_sorted, .int i_size, .ref a_risen, .ref a_risenWays]))]) ⟨hx, hb, hml, hown, hts⟩ (cwV 1 hts gX9_triesBits_X9_parts rfl rfl rfl (by decide +kernel) ⟨Nat.le_of_ble_eq_true rfl, Nat.le_of_ble_eq_true rfl⟩) hN hK hP hD [2] rfl (by decide) rfl 2 rfl rfl rfl rfl hl.1 rfl (Nat.le_of_ble_eq_true rfl) dX9_triesBits_132 ⟨Nat.le_of_ble_eq_true rfl, Nat.le_of_ble_eq_true rfl⟩  ((k0_X9_parts l D cI cJ m0 a_row a_tape a_number a_read a_readBits a_stands a_parted a_bitsWere a_stood a_chosen a_bestChosen a_often a_sorted a_risen a_risenWays i_thrown i_told i_taped i_at i_to i_readMany (0 : Int32) i_size (2 : Int32)) _)) (fun u H locs hp hP hD hS => ?_)
                                        obtain rfl := hp
                                        have hP : va_P D vwCl [(a_chosen, .inl (cI, 8, .inl (upd (upd (upd (upd f_1 1 5) 1 4) 1 3) 1 2))), (a_bestChosen, .inl (cI, 8, .inl g_2)), (m0, .inr (9, [.int i_thrown, .int i_told, .ref a_row, .ref a_tape, .int i_taped, .int i_at, .int i_to, .int 0, .ref a_number, .ref a_read, .int i_readMany, .ref a_readBits, .ref a_stands, .ref a_parted, .ref a_bitsWere, .ref a_stood, .ref a_chosen, .ref a_bestChosen, .int 0, .ref a_often, .ref a_sorted, .int i_size, .ref a_risen, .ref a_risenWays]))] H := hP
                                        have hD : va_D A [(a_chosen, .inl (cI, 8, .inl (upd (upd (upd (upd f_1 1 5) 1 4) 1 3) 1 2))), (a_bestChosen, .inl (cI, 8, .inl g_2)), (m0, .inr (9, [.int i_thrown, .int i_told, .ref a_row, .ref a_tape, .int i_taped, .int i_at, .int i_to, .int 0, .ref a_number, .ref a_read, .int i_readMany, .ref a_readBits, .ref a_stands, .ref a_parted, .ref a_bitsWere, .ref a_stood, .ref a_chosen, .ref a_bestChosen, .int 0, .ref a_often, .ref a_sorted, .int i_size, .ref a_risen, .ref a_risenWays]))] := hD
                                        refine lv_aload_n hx hb dX9_triesBits_135 rfl (lv_at hl 3 rfl) ?_
                                        refine lv_iload_n hx hb dX9_triesBits_136 rfl (lv_at hl 4 rfl) ?_
                                        refine lv_iconst (v := 1) hx hb dX9_triesBits_137 (by decide +kernel) ?_
                                        refine lv_iadd hx hb dX9_triesBits_138 ?_
                                        refine my_eqi (y := 2) (by decide +kernel) ?_
                                        refine lv_iload_n hx hb dX9_triesBits_139 rfl (lv_at hl 5 rfl) ?_
                                        refine lv_iconst (v := 1) hx hb dX9_triesBits_140 (by decide +kernel) ?_
                                        refine lv_iload hx hb dX9_triesBits_141 (lv_at hl 1 rfl) ?_
                                        refine lv_ishl hx hb dX9_triesBits_143 ?_
                                        refine my_eqi (y := 4) (by decide +kernel) ?_
                                        refine lv_ior hx hb dX9_triesBits_144 ?_
                                        refine my_eqi (y := 132) (by decide +kernel) ?_
                                        refine lv_iload_n hx hb dX9_triesBits_145 rfl (lv_at hl 6 rfl) ?_
                                        refine lv_iload hx hb dX9_triesBits_146 (lv_at hl 0 rfl) ?_
                                        refine lv_iadd hx hb dX9_triesBits_148 ?_
                                        refine my_eqi (y := 0) (by decide +kernel) ?_
                                        refine my_goV (wr := [(a_chosen, .inl (cI, 8, .inl (upd (upd (upd (upd f_1 1 5) 1 4) 1 3) 1 2))), (a_bestChosen, .inl (cI, 8, .inl g_2))]) hP hD hS hA [2] [0, 1] rfl rfl (by decide) (by decide) (my_cV (As := [.int 2, .int 132, .int 0]) (rest := []) (ci := 9) (wc := [(m0, .inr (9, [.int i_thrown, .int i_told, .ref a_row, .ref a_tape, .int i_taped, .int i_at, .int i_to, .int 0, .ref a_number, .ref a_read, .int i_readMany, .ref a_readBits, .ref a_stands, .ref a_parted, .ref a_bitsWere, .ref a_stood, .ref a_chosen, .ref a_bestChosen, .int 0, .ref a_often, .ref a_sorted, .int i_size, .ref a_risen, .ref a_risenWays]))]) ⟨hx, hb, hml, hown, hts⟩ (cwV 3 hts gX9_triesBits_X9_triesBits rfl rfl rfl (by decide +kernel) ⟨Nat.le_of_ble_eq_true rfl, Nat.le_of_ble_eq_true rfl⟩) hN hK hP hD [2] rfl (by decide) rfl 2 rfl rfl rfl rfl hl.1 rfl (Nat.le_of_ble_eq_true rfl) dX9_triesBits_149 ⟨Nat.le_of_ble_eq_true rfl, Nat.le_of_ble_eq_true rfl⟩  ((kq_X9_triesBits l D cI cJ m0 a_row a_tape a_number a_read a_readBits a_stands a_parted a_bitsWere a_stood a_chosen a_bestChosen a_often a_sorted a_risen a_risenWays i_thrown i_told i_taped i_at i_to i_readMany i_size (2 : Int32) (132 : Int32)) _)) (fun u H locs hp hP hD hS => ?_)
                                        obtain rfl := hp
                                        have hP : va_P D vwCl [(a_chosen, .inl (cI, 8, .inl (upd (upd (upd (upd f_1 1 5) 1 4) 1 3) 1 2))), (a_bestChosen, .inl (cI, 8, .inl g_2)), (m0, .inr (9, [.int i_thrown, .int i_told, .ref a_row, .ref a_tape, .int i_taped, .int i_at, .int i_to, .int 0, .ref a_number, .ref a_read, .int i_readMany, .ref a_readBits, .ref a_stands, .ref a_parted, .ref a_bitsWere, .ref a_stood, .ref a_chosen, .ref a_bestChosen, .int 0, .ref a_often, .ref a_sorted, .int i_size, .ref a_risen, .ref a_risenWays]))] H := hP
                                        have hD : va_D A [(a_chosen, .inl (cI, 8, .inl (upd (upd (upd (upd f_1 1 5) 1 4) 1 3) 1 2))), (a_bestChosen, .inl (cI, 8, .inl g_2)), (m0, .inr (9, [.int i_thrown, .int i_told, .ref a_row, .ref a_tape, .int i_taped, .int i_at, .int i_to, .int 0, .ref a_number, .ref a_read, .int i_readMany, .ref a_readBits, .ref a_stands, .ref a_parted, .ref a_bitsWere, .ref a_stood, .ref a_chosen, .ref a_bestChosen, .int 0, .ref a_often, .ref a_sorted, .int i_size, .ref a_risen, .ref a_risenWays]))] := hD
                                        refine lv_iconst (v := 0) hx hb dX9_triesBits_152 (by decide +kernel) ?_
                                        refine lv_istore (lv' := [(6, .int 0), (5, .int 0), (4, .int 2), (0, .ref m0), (1, .int 1), (2, .int 128), (3, .int 0)]) hx hb dX9_triesBits_153 hl (by decide) rfl (fun ls hl => ?_)
                                        refine lv_iload hx hb dX9_triesBits_155 (lv_at hl 0 rfl) ?_
                                        refine lv_aload_n hx hb dX9_triesBits_157 rfl (lv_at hl 3 rfl) ?_
                                        refine va_get (ci := 9) (v := .int 0) (C := RX9) (T := TX9) (N := 24) hx hb hts hi9 hown hK hP 2 rfl rfl 7 (by decide) fl88 (fun _ h9 => h9) rfl dX9_triesBits_158 ?_
                                        refine lv_icmp_ge (tgt := 189) hx hb dX9_triesBits_161 (by decide) (fun c161 => ?_) (fun c161 => ?_)
                                        ·
                                          refine lv_iinc (v := 1) (lv' := [(4, .int 1), (6, .int 0), (5, .int 0), (0, .ref m0), (1, .int 1), (2, .int 128), (3, .int 0)]) hx hb dX9_triesBits_189 hl (k := 2) rfl (by decide +kernel) (by decide) rfl (fun ls hl => ?_)
                                          refine lv_goto (tgt := 99) hx hb dX9_triesBits_192 (by decide) ?_
                                          refine lv_iload hx hb dX9_triesBits_99 (lv_at hl 0 rfl) ?_
                                          refine lv_if_lt (tgt := 195) hx hb dX9_triesBits_101 (by decide) (fun c101 => ?_) (fun c101 => ?_)
                                          ·
                                            exact absurd c101 (by decide +kernel)
                                          ·
                                            refine lv_iload_n hx hb dX9_triesBits_104 rfl (lv_at hl 5 rfl) ?_
                                            refine lv_iload hx hb dX9_triesBits_105 (lv_at hl 0 rfl) ?_
                                            refine lv_ishr hx hb dX9_triesBits_107 ?_
                                            refine my_eqi (y := 64) (by decide +kernel) ?_
                                            refine lv_iconst (v := 1) hx hb dX9_triesBits_108 (by decide +kernel) ?_
                                            refine lv_iand hx hb dX9_triesBits_109 ?_
                                            refine my_eqi (y := 0) (by decide +kernel) ?_
                                            refine lv_if_ne (tgt := 189) hx hb dX9_triesBits_110 (by decide) (fun c110 => ?_) (fun c110 => ?_)
                                            ·
                                              exact absurd c110 (by decide +kernel)
                                            ·
                                              refine lv_aload_n hx hb dX9_triesBits_113 rfl (lv_at hl 3 rfl) ?_
                                              refine va_get (ci := 9) (v := .ref a_chosen) (C := RX9) (T := TX9) (N := 24) hx hb hts hi9 hown hK hP 2 rfl rfl 16 (by decide) fl70 (fun _ h9 => h9) rfl dX9_triesBits_114 ?_
                                              refine lv_iload_n hx hb dX9_triesBits_117 rfl (lv_at hl 4 rfl) ?_
                                              refine lv_iload hx hb dX9_triesBits_118 (lv_at hl 0 rfl) ?_
                                              refine va_iast hx hb hK hP hD hS 0 0 rfl rfl (vp_in_nI (n := 1) (by omega) (by omega)) dX9_triesBits_120 (fun H locs hP hD hS => ?_)
                                              have eU : upd (upd (upd (upd (upd f_1 1 5) 1 4) 1 3) 1 2) (1 : Int32).toNatClampNeg 1 = upd (upd (upd (upd (upd f_1 1 5) 1 4) 1 3) 1 2) 1 1 := by rw [show (1 : Int32).toNatClampNeg = 1 from by decide +kernel]
                                              rw [eU] at hP hD
                                              have hP : va_P D vwCl [(a_chosen, .inl (cI, 8, .inl (upd (upd (upd (upd (upd f_1 1 5) 1 4) 1 3) 1 2) 1 1))), (a_bestChosen, .inl (cI, 8, .inl g_2)), (m0, .inr (9, [.int i_thrown, .int i_told, .ref a_row, .ref a_tape, .int i_taped, .int i_at, .int i_to, .int 0, .ref a_number, .ref a_read, .int i_readMany, .ref a_readBits, .ref a_stands, .ref a_parted, .ref a_bitsWere, .ref a_stood, .ref a_chosen, .ref a_bestChosen, .int 0, .ref a_often, .ref a_sorted, .int i_size, .ref a_risen, .ref a_risenWays]))] H := hP
                                              have hD : va_D A [(a_chosen, .inl (cI, 8, .inl (upd (upd (upd (upd (upd f_1 1 5) 1 4) 1 3) 1 2) 1 1))), (a_bestChosen, .inl (cI, 8, .inl g_2)), (m0, .inr (9, [.int i_thrown, .int i_told, .ref a_row, .ref a_tape, .int i_taped, .int i_at, .int i_to, .int 0, .ref a_number, .ref a_read, .int i_readMany, .ref a_readBits, .ref a_stands, .ref a_parted, .ref a_bitsWere, .ref a_stood, .ref a_chosen, .ref a_bestChosen, .int 0, .ref a_often, .ref a_sorted, .int i_size, .ref a_risen, .ref a_risenWays]))] := hD
                                              refine lv_aload_n hx hb dX9_triesBits_121 rfl (lv_at hl 3 rfl) ?_
                                              refine lv_iload hx hb dX9_triesBits_122 (lv_at hl 0 rfl) ?_
                                              refine my_gpI (my_pV (As := [.int 1]) (rest := []) (ci := 9) ⟨hx, hb, hml, hown, hts⟩ (cwV 1 hts gX9_triesBits_X9_runsOf rfl rfl rfl (by decide +kernel) ⟨Nat.le_of_ble_eq_true rfl, Nat.le_of_ble_eq_true rfl⟩) hN hK hP [2] rfl 2 rfl rfl rfl rfl hl.1 rfl (Nat.le_of_ble_eq_true rfl) dX9_triesBits_124 ⟨Nat.le_of_ble_eq_true rfl, Nat.le_of_ble_eq_true rfl⟩  (k0_X9_runsOf l D cI cJ m0 a_row a_tape a_number a_read a_readBits a_stands a_parted a_bitsWere a_stood a_chosen a_bestChosen a_often a_sorted a_risen a_risenWays i_thrown i_told i_taped i_at i_to i_readMany (0 : Int32) i_size (1 : Int32))) (fun r hp => ?_)
                                              obtain rfl := hp
                                              refine lv_istore (lv' := [(5, .int 0), (4, .int 1), (6, .int 0), (0, .ref m0), (1, .int 1), (2, .int 128), (3, .int 0)]) hx hb dX9_triesBits_127 hl (by decide) rfl (fun ls hl => ?_)
                                              refine lv_aload_n hx hb dX9_triesBits_129 rfl (lv_at hl 3 rfl) ?_
                                              refine lv_iload hx hb dX9_triesBits_130 (lv_at hl 1 rfl) ?_
                                              refine my_goV (wr := [(a_chosen, .inl (cI, 8, .inl (upd (upd (upd (upd (upd f_1 1 5) 1 4) 1 3) 1 2) 1 1))), (a_bestChosen, .inl (cI, 8, .inl g_2))]) hP hD hS hA [2] [0, 1] rfl rfl (by decide) (by decide) (my_cV (As := [.int 1]) (rest := []) (ci := 9) (wc := [(m0, .inr (9, [.int i_thrown, .int i_told, .ref a_row, .ref a_tape, .int i_taped, .int i_at, .int i_to, .int 0, .ref a_number, .ref a_read, .int i_readMany, .ref a_readBits, .ref a_stands, .ref a_parted, .ref a_bitsWere, .ref a_stood, .ref a_chosen, .ref a_bestChosen, .int 0, .ref a_often, .ref a_sorted, .int i_size, .ref a_risen, .ref a_risenWays]))]) ⟨hx, hb, hml, hown, hts⟩ (cwV 1 hts gX9_triesBits_X9_parts rfl rfl rfl (by decide +kernel) ⟨Nat.le_of_ble_eq_true rfl, Nat.le_of_ble_eq_true rfl⟩) hN hK hP hD [2] rfl (by decide) rfl 2 rfl rfl rfl rfl hl.1 rfl (Nat.le_of_ble_eq_true rfl) dX9_triesBits_132 ⟨Nat.le_of_ble_eq_true rfl, Nat.le_of_ble_eq_true rfl⟩  ((k0_X9_parts l D cI cJ m0 a_row a_tape a_number a_read a_readBits a_stands a_parted a_bitsWere a_stood a_chosen a_bestChosen a_often a_sorted a_risen a_risenWays i_thrown i_told i_taped i_at i_to i_readMany (0 : Int32) i_size (1 : Int32)) _)) (fun u H locs hp hP hD hS => ?_)
                                              obtain rfl := hp
                                              have hP : va_P D vwCl [(a_chosen, .inl (cI, 8, .inl (upd (upd (upd (upd (upd f_1 1 5) 1 4) 1 3) 1 2) 1 1))), (a_bestChosen, .inl (cI, 8, .inl g_2)), (m0, .inr (9, [.int i_thrown, .int i_told, .ref a_row, .ref a_tape, .int i_taped, .int i_at, .int i_to, .int 0, .ref a_number, .ref a_read, .int i_readMany, .ref a_readBits, .ref a_stands, .ref a_parted, .ref a_bitsWere, .ref a_stood, .ref a_chosen, .ref a_bestChosen, .int 0, .ref a_often, .ref a_sorted, .int i_size, .ref a_risen, .ref a_risenWays]))] H := hP
                                              have hD : va_D A [(a_chosen, .inl (cI, 8, .inl (upd (upd (upd (upd (upd f_1 1 5) 1 4) 1 3) 1 2) 1 1))), (a_bestChosen, .inl (cI, 8, .inl g_2)), (m0, .inr (9, [.int i_thrown, .int i_told, .ref a_row, .ref a_tape, .int i_taped, .int i_at, .int i_to, .int 0, .ref a_number, .ref a_read, .int i_readMany, .ref a_readBits, .ref a_stands, .ref a_parted, .ref a_bitsWere, .ref a_stood, .ref a_chosen, .ref a_bestChosen, .int 0, .ref a_often, .ref a_sorted, .int i_size, .ref a_risen, .ref a_risenWays]))] := hD
                                              refine lv_aload_n hx hb dX9_triesBits_135 rfl (lv_at hl 3 rfl) ?_
                                              refine lv_iload_n hx hb dX9_triesBits_136 rfl (lv_at hl 4 rfl) ?_
                                              refine lv_iconst (v := 1) hx hb dX9_triesBits_137 (by decide +kernel) ?_
                                              refine lv_iadd hx hb dX9_triesBits_138 ?_
                                              refine my_eqi (y := 2) (by decide +kernel) ?_
                                              refine lv_iload_n hx hb dX9_triesBits_139 rfl (lv_at hl 5 rfl) ?_
                                              refine lv_iconst (v := 1) hx hb dX9_triesBits_140 (by decide +kernel) ?_
                                              refine lv_iload hx hb dX9_triesBits_141 (lv_at hl 1 rfl) ?_
                                              refine lv_ishl hx hb dX9_triesBits_143 ?_
                                              refine my_eqi (y := 2) (by decide +kernel) ?_
                                              refine lv_ior hx hb dX9_triesBits_144 ?_
                                              refine my_eqi (y := 130) (by decide +kernel) ?_
                                              refine lv_iload_n hx hb dX9_triesBits_145 rfl (lv_at hl 6 rfl) ?_
                                              refine lv_iload hx hb dX9_triesBits_146 (lv_at hl 0 rfl) ?_
                                              refine lv_iadd hx hb dX9_triesBits_148 ?_
                                              refine my_eqi (y := 0) (by decide +kernel) ?_
                                              refine my_goV (wr := [(a_chosen, .inl (cI, 8, .inl (upd (upd (upd (upd (upd f_1 1 5) 1 4) 1 3) 1 2) 1 1))), (a_bestChosen, .inl (cI, 8, .inl g_2))]) hP hD hS hA [2] [0, 1] rfl rfl (by decide) (by decide) (my_cV (As := [.int 2, .int 130, .int 0]) (rest := []) (ci := 9) (wc := [(m0, .inr (9, [.int i_thrown, .int i_told, .ref a_row, .ref a_tape, .int i_taped, .int i_at, .int i_to, .int 0, .ref a_number, .ref a_read, .int i_readMany, .ref a_readBits, .ref a_stands, .ref a_parted, .ref a_bitsWere, .ref a_stood, .ref a_chosen, .ref a_bestChosen, .int 0, .ref a_often, .ref a_sorted, .int i_size, .ref a_risen, .ref a_risenWays]))]) ⟨hx, hb, hml, hown, hts⟩ (cwV 3 hts gX9_triesBits_X9_triesBits rfl rfl rfl (by decide +kernel) ⟨Nat.le_of_ble_eq_true rfl, Nat.le_of_ble_eq_true rfl⟩) hN hK hP hD [2] rfl (by decide) rfl 2 rfl rfl rfl rfl hl.1 rfl (Nat.le_of_ble_eq_true rfl) dX9_triesBits_149 ⟨Nat.le_of_ble_eq_true rfl, Nat.le_of_ble_eq_true rfl⟩  ((kq_X9_triesBits l D cI cJ m0 a_row a_tape a_number a_read a_readBits a_stands a_parted a_bitsWere a_stood a_chosen a_bestChosen a_often a_sorted a_risen a_risenWays i_thrown i_told i_taped i_at i_to i_readMany i_size (2 : Int32) (130 : Int32)) _)) (fun u H locs hp hP hD hS => ?_)
                                              obtain rfl := hp
                                              have hP : va_P D vwCl [(a_chosen, .inl (cI, 8, .inl (upd (upd (upd (upd (upd f_1 1 5) 1 4) 1 3) 1 2) 1 1))), (a_bestChosen, .inl (cI, 8, .inl g_2)), (m0, .inr (9, [.int i_thrown, .int i_told, .ref a_row, .ref a_tape, .int i_taped, .int i_at, .int i_to, .int 0, .ref a_number, .ref a_read, .int i_readMany, .ref a_readBits, .ref a_stands, .ref a_parted, .ref a_bitsWere, .ref a_stood, .ref a_chosen, .ref a_bestChosen, .int 0, .ref a_often, .ref a_sorted, .int i_size, .ref a_risen, .ref a_risenWays]))] H := hP
                                              have hD : va_D A [(a_chosen, .inl (cI, 8, .inl (upd (upd (upd (upd (upd f_1 1 5) 1 4) 1 3) 1 2) 1 1))), (a_bestChosen, .inl (cI, 8, .inl g_2)), (m0, .inr (9, [.int i_thrown, .int i_told, .ref a_row, .ref a_tape, .int i_taped, .int i_at, .int i_to, .int 0, .ref a_number, .ref a_read, .int i_readMany, .ref a_readBits, .ref a_stands, .ref a_parted, .ref a_bitsWere, .ref a_stood, .ref a_chosen, .ref a_bestChosen, .int 0, .ref a_often, .ref a_sorted, .int i_size, .ref a_risen, .ref a_risenWays]))] := hD
                                              refine lv_iconst (v := 0) hx hb dX9_triesBits_152 (by decide +kernel) ?_
                                              refine lv_istore (lv' := [(6, .int 0), (5, .int 0), (4, .int 1), (0, .ref m0), (1, .int 1), (2, .int 128), (3, .int 0)]) hx hb dX9_triesBits_153 hl (by decide) rfl (fun ls hl => ?_)
                                              refine lv_iload hx hb dX9_triesBits_155 (lv_at hl 0 rfl) ?_
                                              refine lv_aload_n hx hb dX9_triesBits_157 rfl (lv_at hl 3 rfl) ?_
                                              refine va_get (ci := 9) (v := .int 0) (C := RX9) (T := TX9) (N := 24) hx hb hts hi9 hown hK hP 2 rfl rfl 7 (by decide) fl88 (fun _ h9 => h9) rfl dX9_triesBits_158 ?_
                                              refine lv_icmp_ge (tgt := 189) hx hb dX9_triesBits_161 (by decide) (fun c161 => ?_) (fun c161 => ?_)
                                              ·
                                                refine lv_iinc (v := 0) (lv' := [(4, .int 0), (6, .int 0), (5, .int 0), (0, .ref m0), (1, .int 1), (2, .int 128), (3, .int 0)]) hx hb dX9_triesBits_189 hl (k := 2) rfl (by decide +kernel) (by decide) rfl (fun ls hl => ?_)
                                                refine lv_goto (tgt := 99) hx hb dX9_triesBits_192 (by decide) ?_
                                                refine lv_iload hx hb dX9_triesBits_99 (lv_at hl 0 rfl) ?_
                                                refine lv_if_lt (tgt := 195) hx hb dX9_triesBits_101 (by decide) (fun c101 => ?_) (fun c101 => ?_)
                                                ·
                                                  exact absurd c101 (by decide +kernel)
                                                ·
                                                  refine lv_iload_n hx hb dX9_triesBits_104 rfl (lv_at hl 5 rfl) ?_
                                                  refine lv_iload hx hb dX9_triesBits_105 (lv_at hl 0 rfl) ?_
                                                  refine lv_ishr hx hb dX9_triesBits_107 ?_
                                                  refine my_eqi (y := 128) (by decide +kernel) ?_
                                                  refine lv_iconst (v := 1) hx hb dX9_triesBits_108 (by decide +kernel) ?_
                                                  refine lv_iand hx hb dX9_triesBits_109 ?_
                                                  refine my_eqi (y := 0) (by decide +kernel) ?_
                                                  refine lv_if_ne (tgt := 189) hx hb dX9_triesBits_110 (by decide) (fun c110 => ?_) (fun c110 => ?_)
                                                  ·
                                                    exact absurd c110 (by decide +kernel)
                                                  ·
                                                    refine lv_aload_n hx hb dX9_triesBits_113 rfl (lv_at hl 3 rfl) ?_
                                                    refine va_get (ci := 9) (v := .ref a_chosen) (C := RX9) (T := TX9) (N := 24) hx hb hts hi9 hown hK hP 2 rfl rfl 16 (by decide) fl70 (fun _ h9 => h9) rfl dX9_triesBits_114 ?_
                                                    refine lv_iload_n hx hb dX9_triesBits_117 rfl (lv_at hl 4 rfl) ?_
                                                    refine lv_iload hx hb dX9_triesBits_118 (lv_at hl 0 rfl) ?_
                                                    refine va_iast hx hb hK hP hD hS 0 0 rfl rfl (vp_in_nI (n := 1) (by omega) (by omega)) dX9_triesBits_120 (fun H locs hP hD hS => ?_)
                                                    have eU : upd (upd (upd (upd (upd (upd f_1 1 5) 1 4) 1 3) 1 2) 1 1) (1 : Int32).toNatClampNeg 0 = upd (upd (upd (upd (upd (upd f_1 1 5) 1 4) 1 3) 1 2) 1 1) 1 0 := by rw [show (1 : Int32).toNatClampNeg = 1 from by decide +kernel]
                                                    rw [eU] at hP hD
                                                    have hP : va_P D vwCl [(a_chosen, .inl (cI, 8, .inl (upd (upd (upd (upd (upd (upd f_1 1 5) 1 4) 1 3) 1 2) 1 1) 1 0))), (a_bestChosen, .inl (cI, 8, .inl g_2)), (m0, .inr (9, [.int i_thrown, .int i_told, .ref a_row, .ref a_tape, .int i_taped, .int i_at, .int i_to, .int 0, .ref a_number, .ref a_read, .int i_readMany, .ref a_readBits, .ref a_stands, .ref a_parted, .ref a_bitsWere, .ref a_stood, .ref a_chosen, .ref a_bestChosen, .int 0, .ref a_often, .ref a_sorted, .int i_size, .ref a_risen, .ref a_risenWays]))] H := hP
                                                    have hD : va_D A [(a_chosen, .inl (cI, 8, .inl (upd (upd (upd (upd (upd (upd f_1 1 5) 1 4) 1 3) 1 2) 1 1) 1 0))), (a_bestChosen, .inl (cI, 8, .inl g_2)), (m0, .inr (9, [.int i_thrown, .int i_told, .ref a_row, .ref a_tape, .int i_taped, .int i_at, .int i_to, .int 0, .ref a_number, .ref a_read, .int i_readMany, .ref a_readBits, .ref a_stands, .ref a_parted, .ref a_bitsWere, .ref a_stood, .ref a_chosen, .ref a_bestChosen, .int 0, .ref a_often, .ref a_sorted, .int i_size, .ref a_risen, .ref a_risenWays]))] := hD
                                                    refine lv_aload_n hx hb dX9_triesBits_121 rfl (lv_at hl 3 rfl) ?_
                                                    refine lv_iload hx hb dX9_triesBits_122 (lv_at hl 0 rfl) ?_
                                                    refine my_gpI (my_pV (As := [.int 0]) (rest := []) (ci := 9) ⟨hx, hb, hml, hown, hts⟩ (cwV 1 hts gX9_triesBits_X9_runsOf rfl rfl rfl (by decide +kernel) ⟨Nat.le_of_ble_eq_true rfl, Nat.le_of_ble_eq_true rfl⟩) hN hK hP [2] rfl 2 rfl rfl rfl rfl hl.1 rfl (Nat.le_of_ble_eq_true rfl) dX9_triesBits_124 ⟨Nat.le_of_ble_eq_true rfl, Nat.le_of_ble_eq_true rfl⟩  (k0_X9_runsOf l D cI cJ m0 a_row a_tape a_number a_read a_readBits a_stands a_parted a_bitsWere a_stood a_chosen a_bestChosen a_often a_sorted a_risen a_risenWays i_thrown i_told i_taped i_at i_to i_readMany (0 : Int32) i_size (0 : Int32))) (fun r hp => ?_)
                                                    obtain rfl := hp
                                                    refine lv_istore (lv' := [(5, .int 0), (4, .int 0), (6, .int 0), (0, .ref m0), (1, .int 1), (2, .int 128), (3, .int 0)]) hx hb dX9_triesBits_127 hl (by decide) rfl (fun ls hl => ?_)
                                                    refine lv_aload_n hx hb dX9_triesBits_129 rfl (lv_at hl 3 rfl) ?_
                                                    refine lv_iload hx hb dX9_triesBits_130 (lv_at hl 1 rfl) ?_
                                                    refine my_goV (wr := [(a_chosen, .inl (cI, 8, .inl (upd (upd (upd (upd (upd (upd f_1 1 5) 1 4) 1 3) 1 2) 1 1) 1 0))), (a_bestChosen, .inl (cI, 8, .inl g_2))]) hP hD hS hA [2] [0, 1] rfl rfl (by decide) (by decide) (my_cV (As := [.int 0]) (rest := []) (ci := 9) (wc := [(m0, .inr (9, [.int i_thrown, .int i_told, .ref a_row, .ref a_tape, .int i_taped, .int i_at, .int i_to, .int 0, .ref a_number, .ref a_read, .int i_readMany, .ref a_readBits, .ref a_stands, .ref a_parted, .ref a_bitsWere, .ref a_stood, .ref a_chosen, .ref a_bestChosen, .int 0, .ref a_often, .ref a_sorted, .int i_size, .ref a_risen, .ref a_risenWays]))]) ⟨hx, hb, hml, hown, hts⟩ (cwV 1 hts gX9_triesBits_X9_parts rfl rfl rfl (by decide +kernel) ⟨Nat.le_of_ble_eq_true rfl, Nat.le_of_ble_eq_true rfl⟩) hN hK hP hD [2] rfl (by decide) rfl 2 rfl rfl rfl rfl hl.1 rfl (Nat.le_of_ble_eq_true rfl) dX9_triesBits_132 ⟨Nat.le_of_ble_eq_true rfl, Nat.le_of_ble_eq_true rfl⟩  ((k0_X9_parts l D cI cJ m0 a_row a_tape a_number a_read a_readBits a_stands a_parted a_bitsWere a_stood a_chosen a_bestChosen a_often a_sorted a_risen a_risenWays i_thrown i_told i_taped i_at i_to i_readMany (0 : Int32) i_size (0 : Int32)) _)) (fun u H locs hp hP hD hS => ?_)
                                                    obtain rfl := hp
                                                    have hP : va_P D vwCl [(a_chosen, .inl (cI, 8, .inl (upd (upd (upd (upd (upd (upd f_1 1 5) 1 4) 1 3) 1 2) 1 1) 1 0))), (a_bestChosen, .inl (cI, 8, .inl g_2)), (m0, .inr (9, [.int i_thrown, .int i_told, .ref a_row, .ref a_tape, .int i_taped, .int i_at, .int i_to, .int 0, .ref a_number, .ref a_read, .int i_readMany, .ref a_readBits, .ref a_stands, .ref a_parted, .ref a_bitsWere, .ref a_stood, .ref a_chosen, .ref a_bestChosen, .int 0, .ref a_often, .ref a_sorted, .int i_size, .ref a_risen, .ref a_risenWays]))] H := hP
                                                    have hD : va_D A [(a_chosen, .inl (cI, 8, .inl (upd (upd (upd (upd (upd (upd f_1 1 5) 1 4) 1 3) 1 2) 1 1) 1 0))), (a_bestChosen, .inl (cI, 8, .inl g_2)), (m0, .inr (9, [.int i_thrown, .int i_told, .ref a_row, .ref a_tape, .int i_taped, .int i_at, .int i_to, .int 0, .ref a_number, .ref a_read, .int i_readMany, .ref a_readBits, .ref a_stands, .ref a_parted, .ref a_bitsWere, .ref a_stood, .ref a_chosen, .ref a_bestChosen, .int 0, .ref a_often, .ref a_sorted, .int i_size, .ref a_risen, .ref a_risenWays]))] := hD
                                                    refine lv_aload_n hx hb dX9_triesBits_135 rfl (lv_at hl 3 rfl) ?_
                                                    refine lv_iload_n hx hb dX9_triesBits_136 rfl (lv_at hl 4 rfl) ?_
                                                    refine lv_iconst (v := 1) hx hb dX9_triesBits_137 (by decide +kernel) ?_
                                                    refine lv_iadd hx hb dX9_triesBits_138 ?_
                                                    refine my_eqi (y := 2) (by decide +kernel) ?_
                                                    refine lv_iload_n hx hb dX9_triesBits_139 rfl (lv_at hl 5 rfl) ?_
                                                    refine lv_iconst (v := 1) hx hb dX9_triesBits_140 (by decide +kernel) ?_
                                                    refine lv_iload hx hb dX9_triesBits_141 (lv_at hl 1 rfl) ?_
                                                    refine lv_ishl hx hb dX9_triesBits_143 ?_
                                                    refine my_eqi (y := 1) (by decide +kernel) ?_
                                                    refine lv_ior hx hb dX9_triesBits_144 ?_
                                                    refine my_eqi (y := 129) (by decide +kernel) ?_
                                                    refine lv_iload_n hx hb dX9_triesBits_145 rfl (lv_at hl 6 rfl) ?_
                                                    refine lv_iload hx hb dX9_triesBits_146 (lv_at hl 0 rfl) ?_
                                                    refine lv_iadd hx hb dX9_triesBits_148 ?_
                                                    refine my_eqi (y := 0) (by decide +kernel) ?_
                                                    refine my_goV (wr := [(a_chosen, .inl (cI, 8, .inl (upd (upd (upd (upd (upd (upd f_1 1 5) 1 4) 1 3) 1 2) 1 1) 1 0))), (a_bestChosen, .inl (cI, 8, .inl g_2))]) hP hD hS hA [2] [0, 1] rfl rfl (by decide) (by decide) (my_cV (As := [.int 2, .int 129, .int 0]) (rest := []) (ci := 9) (wc := [(m0, .inr (9, [.int i_thrown, .int i_told, .ref a_row, .ref a_tape, .int i_taped, .int i_at, .int i_to, .int 0, .ref a_number, .ref a_read, .int i_readMany, .ref a_readBits, .ref a_stands, .ref a_parted, .ref a_bitsWere, .ref a_stood, .ref a_chosen, .ref a_bestChosen, .int 0, .ref a_often, .ref a_sorted, .int i_size, .ref a_risen, .ref a_risenWays]))]) ⟨hx, hb, hml, hown, hts⟩ (cwV 3 hts gX9_triesBits_X9_triesBits rfl rfl rfl (by decide +kernel) ⟨Nat.le_of_ble_eq_true rfl, Nat.le_of_ble_eq_true rfl⟩) hN hK hP hD [2] rfl (by decide) rfl 2 rfl rfl rfl rfl hl.1 rfl (Nat.le_of_ble_eq_true rfl) dX9_triesBits_149 ⟨Nat.le_of_ble_eq_true rfl, Nat.le_of_ble_eq_true rfl⟩  ((kq_X9_triesBits l D cI cJ m0 a_row a_tape a_number a_read a_readBits a_stands a_parted a_bitsWere a_stood a_chosen a_bestChosen a_often a_sorted a_risen a_risenWays i_thrown i_told i_taped i_at i_to i_readMany i_size (2 : Int32) (129 : Int32)) _)) (fun u H locs hp hP hD hS => ?_)
                                                    obtain rfl := hp
                                                    have hP : va_P D vwCl [(a_chosen, .inl (cI, 8, .inl (upd (upd (upd (upd (upd (upd f_1 1 5) 1 4) 1 3) 1 2) 1 1) 1 0))), (a_bestChosen, .inl (cI, 8, .inl g_2)), (m0, .inr (9, [.int i_thrown, .int i_told, .ref a_row, .ref a_tape, .int i_taped, .int i_at, .int i_to, .int 0, .ref a_number, .ref a_read, .int i_readMany, .ref a_readBits, .ref a_stands, .ref a_parted, .ref a_bitsWere, .ref a_stood, .ref a_chosen, .ref a_bestChosen, .int 0, .ref a_often, .ref a_sorted, .int i_size, .ref a_risen, .ref a_risenWays]))] H := hP
                                                    have hD : va_D A [(a_chosen, .inl (cI, 8, .inl (upd (upd (upd (upd (upd (upd f_1 1 5) 1 4) 1 3) 1 2) 1 1) 1 0))), (a_bestChosen, .inl (cI, 8, .inl g_2)), (m0, .inr (9, [.int i_thrown, .int i_told, .ref a_row, .ref a_tape, .int i_taped, .int i_at, .int i_to, .int 0, .ref a_number, .ref a_read, .int i_readMany, .ref a_readBits, .ref a_stands, .ref a_parted, .ref a_bitsWere, .ref a_stood, .ref a_chosen, .ref a_bestChosen, .int 0, .ref a_often, .ref a_sorted, .int i_size, .ref a_risen, .ref a_risenWays]))] := hD
                                                    refine lv_iconst (v := 0) hx hb dX9_triesBits_152 (by decide +kernel) ?_
                                                    refine lv_istore (lv' := [(6, .int 0), (5, .int 0), (4, .int 0), (0, .ref m0), (1, .int 1), (2, .int 128), (3, .int 0)]) hx hb dX9_triesBits_153 hl (by decide) rfl (fun ls hl => ?_)
                                                    refine lv_iload hx hb dX9_triesBits_155 (lv_at hl 0 rfl) ?_
                                                    refine lv_aload_n hx hb dX9_triesBits_157 rfl (lv_at hl 3 rfl) ?_
                                                    refine va_get (ci := 9) (v := .int 0) (C := RX9) (T := TX9) (N := 24) hx hb hts hi9 hown hK hP 2 rfl rfl 7 (by decide) fl88 (fun _ h9 => h9) rfl dX9_triesBits_158 ?_
                                                    refine lv_icmp_ge (tgt := 189) hx hb dX9_triesBits_161 (by decide) (fun c161 => ?_) (fun c161 => ?_)
                                                    ·
                                                      refine lv_iinc (v := (-1)) (lv' := [(4, .int (-1)), (6, .int 0), (5, .int 0), (0, .ref m0), (1, .int 1), (2, .int 128), (3, .int 0)]) hx hb dX9_triesBits_189 hl (k := 2) rfl (by decide +kernel) (by decide) rfl (fun ls hl => ?_)
                                                      refine lv_goto (tgt := 99) hx hb dX9_triesBits_192 (by decide) ?_
                                                      refine lv_iload hx hb dX9_triesBits_99 (lv_at hl 0 rfl) ?_
                                                      refine lv_if_lt (tgt := 195) hx hb dX9_triesBits_101 (by decide) (fun c101 => ?_) (fun c101 => ?_)
                                                      ·
                                                        exact my_retV hx hb hr hlocks hK hS [(m0, .inr (9, [.int i_thrown, .int i_told, .ref a_row, .ref a_tape, .int i_taped, .int i_at, .int i_to, .int 0, .ref a_number, .ref a_read, .int i_readMany, .ref a_readBits, .ref a_stands, .ref a_parted, .ref a_bitsWere, .ref a_stood, .ref a_chosen, .ref a_bestChosen, .int 0, .ref a_often, .ref a_sorted, .int i_size, .ref a_risen, .ref a_risenWays])), (a_chosen, .inl (cI, 8, .inl (upd (upd (upd (upd (upd (upd f_1 1 5) 1 4) 1 3) 1 2) 1 1) 1 0))), (a_bestChosen, .inl (cI, 8, .inl g_2))] (hP.sub [2, 0, 1] rfl) (hD.sub [2, 0, 1] (by decide) rfl) (⟨(upd (upd (upd (upd (upd (upd f_1 1 5) 1 4) 1 3) 1 2) 1 1) 1 0), g_2, rfl⟩) dX9_triesBits_195
                                                      ·
                                                        exact absurd c101 (by decide +kernel)
                                                    ·
                                                      exact absurd c161 (by decide +kernel)
                                              ·
                                                exact absurd c161 (by decide +kernel)
                                        ·
                                          exact absurd c161 (by decide +kernel)
                                  ·
                                    exact absurd c161 (by decide +kernel)
                            ·
                              exact absurd c161 (by decide +kernel)
                      ·
                        exact absurd c161 (by decide +kernel)
                ·
                  exact absurd c161 (by decide +kernel)
          ·
            exact absurd c110 (by decide +kernel)
      ·
        exact absurd c67 (by decide +kernel)
    ·
      exact absurd c19 (by decide +kernel)
  ·
    exact absurd c4 (by decide +kernel)
set_option maxHeartbeats 4000000 in
set_option maxRecDepth 100000 in
theorem k0_X9_triesBits_0 (l : Launch) (D : va_G) (cI cJ : ClassId) (m0 : Nat) (a_row : Nat) (a_tape : Nat) (a_number : Nat) (a_read : Nat) (a_readBits : Nat) (a_stands : Nat) (a_parted : Nat) (a_bitsWere : Nat) (a_stood : Nat) (a_chosen : Nat) (a_bestChosen : Nat) (a_often : Nat) (a_sorted : Nat) (a_risen : Nat) (a_risenWays : Nat) (i_thrown : Int32) (i_told : Int32) (i_taped : Int32) (i_at : Int32) (i_to : Int32) (i_readMany : Int32) (i_size : Int32) (f : Nat → Int32) (g : Nat → Int32) : ctV l yX9_triesBits wsX9_triesBits ({ frames := 8, cells := 0, slots := 0, locals := 480 } : Room) D (tyIJ cI cJ) [.ref m0, .int 0, .int 0, .int 0] [(m0, .inr (9, [.int i_thrown, .int i_told, .ref a_row, .ref a_tape, .int i_taped, .int i_at, .int i_to, .int 0, .ref a_number, .ref a_read, .int i_readMany, .ref a_readBits, .ref a_stands, .ref a_parted, .ref a_bitsWere, .ref a_stood, .ref a_chosen, .ref a_bestChosen, .int (-1), .ref a_often, .ref a_sorted, .int i_size, .ref a_risen, .ref a_risenWays])), (a_chosen, .inl (cI, 8, .inl f)), (a_bestChosen, .inl (cI, 8, .inl g))] (fun (u : va_W) => ∃ (f' : Nat → Int32) (g' : Nat → Int32), u = [(m0, .inr (9, [.int i_thrown, .int i_told, .ref a_row, .ref a_tape, .int i_taped, .int i_at, .int i_to, .int 0, .ref a_number, .ref a_read, .int i_readMany, .ref a_readBits, .ref a_stands, .ref a_parted, .ref a_bitsWere, .ref a_stood, .ref a_chosen, .ref a_bestChosen, .int 0, .ref a_often, .ref a_sorted, .int i_size, .ref a_risen, .ref a_risenWays])), (a_chosen, .inl (cI, 8, .inl f')), (a_bestChosen, .inl (cI, 8, .inl g'))]) := by
  refine ctV.of (cc := cX9_triesBits) (maxL := 7) (ret := none) (by decide) rfl (Nat.le_of_ble_eq_true rfl) ?_
  intro p e s m below meth c ls A hx hb hr hts hown hml hlocks hname hA hK hN hP hD hS hl
  have hl : lv_has ls 7 [(0, .ref m0), (1, .int 0), (2, .int 0), (3, .int 0)] := hl
  have hown : s.vm.findClass RX9 = some m.cls := hown
  have hi9 : ∀ w ∈ u_ws RX9 TX9 24, w ∈ wsX9_triesBits := by decide +kernel
  have fl162 := hts (.fieldLink RX9 162 "PlaneColumnModel" "fewest" "I") (by decide +kernel)
  have fl70 := hts (.fieldLink RX9 70 "PlaneColumnModel" "chosen" "[I") (by decide +kernel)
  have fl88 := hts (.fieldLink RX9 88 "PlaneColumnModel" "many" "I") (by decide +kernel)
  refine lv_aload_n hx hb dX9_triesBits_0 rfl (lv_at hl 0 rfl) ?_
  refine va_get (ci := 9) (v := .int (-1)) (C := RX9) (T := TX9) (N := 24) hx hb hts hi9 hown hK hP 0 rfl rfl 18 (by decide) fl162 (fun _ h9 => h9) rfl dX9_triesBits_1 ?_
  refine lv_if_lt (tgt := 16) hx hb dX9_triesBits_4 (by decide) (fun c4 => ?_) (fun c4 => ?_)
  ·
    refine lv_iload_n hx hb dX9_triesBits_16 rfl (lv_at hl 1 rfl) ?_
    refine lv_bipush (v := 8) hx hb dX9_triesBits_17 (by decide +kernel) ?_
    refine lv_icmp_ne (tgt := 58) hx hb dX9_triesBits_19 (by decide) (fun c19 => ?_) (fun c19 => ?_)
    ·
      refine lv_iconst (v := 0) hx hb dX9_triesBits_58 (by decide +kernel) ?_
      refine lv_istore (lv' := [(4, .int 0), (0, .ref m0), (1, .int 0), (2, .int 0), (3, .int 0)]) hx hb dX9_triesBits_59 hl (by decide) rfl (fun ls hl => ?_)
      refine lv_iload hx hb dX9_triesBits_61 (lv_at hl 0 rfl) ?_
      refine lv_aload_n hx hb dX9_triesBits_63 rfl (lv_at hl 1 rfl) ?_
      refine va_get (ci := 9) (v := .int 0) (C := RX9) (T := TX9) (N := 24) hx hb hts hi9 hown hK hP 0 rfl rfl 7 (by decide) fl88 (fun _ h9 => h9) rfl dX9_triesBits_64 ?_
      refine lv_icmp_ge (tgt := 95) hx hb dX9_triesBits_67 (by decide) (fun c67 => ?_) (fun c67 => ?_)
      ·
        refine lv_bipush (v := 7) hx hb dX9_triesBits_95 (by decide +kernel) ?_
        refine lv_istore (lv' := [(4, .int 7), (0, .ref m0), (1, .int 0), (2, .int 0), (3, .int 0)]) hx hb dX9_triesBits_97 hl (by decide) rfl (fun ls hl => ?_)
        refine lv_iload hx hb dX9_triesBits_99 (lv_at hl 0 rfl) ?_
        refine lv_if_lt (tgt := 195) hx hb dX9_triesBits_101 (by decide) (fun c101 => ?_) (fun c101 => ?_)
        ·
          exact absurd c101 (by decide +kernel)
        ·
          refine lv_iload_n hx hb dX9_triesBits_104 rfl (lv_at hl 3 rfl) ?_
          refine lv_iload hx hb dX9_triesBits_105 (lv_at hl 0 rfl) ?_
          refine lv_ishr hx hb dX9_triesBits_107 ?_
          refine my_eqi (y := 0) (by decide +kernel) ?_
          refine lv_iconst (v := 1) hx hb dX9_triesBits_108 (by decide +kernel) ?_
          refine lv_iand hx hb dX9_triesBits_109 ?_
          refine my_eqi (y := 0) (by decide +kernel) ?_
          refine lv_if_ne (tgt := 189) hx hb dX9_triesBits_110 (by decide) (fun c110 => ?_) (fun c110 => ?_)
          ·
            exact absurd c110 (by decide +kernel)
          ·
            refine lv_aload_n hx hb dX9_triesBits_113 rfl (lv_at hl 1 rfl) ?_
            refine va_get (ci := 9) (v := .ref a_chosen) (C := RX9) (T := TX9) (N := 24) hx hb hts hi9 hown hK hP 0 rfl rfl 16 (by decide) fl70 (fun _ h9 => h9) rfl dX9_triesBits_114 ?_
            refine lv_iload_n hx hb dX9_triesBits_117 rfl (lv_at hl 2 rfl) ?_
            refine lv_iload hx hb dX9_triesBits_118 (lv_at hl 0 rfl) ?_
            refine va_iast hx hb hK hP hD hS 1 0 rfl rfl (vp_in_nI (n := 0) (by omega) (by omega)) dX9_triesBits_120 (fun H locs hP hD hS => ?_)
            have eU : upd f (0 : Int32).toNatClampNeg 7 = upd f 0 7 := by rw [show (0 : Int32).toNatClampNeg = 0 from by decide +kernel]
            rw [eU] at hP hD
            have hP : va_P D vwCl [(m0, .inr (9, [.int i_thrown, .int i_told, .ref a_row, .ref a_tape, .int i_taped, .int i_at, .int i_to, .int 0, .ref a_number, .ref a_read, .int i_readMany, .ref a_readBits, .ref a_stands, .ref a_parted, .ref a_bitsWere, .ref a_stood, .ref a_chosen, .ref a_bestChosen, .int (-1), .ref a_often, .ref a_sorted, .int i_size, .ref a_risen, .ref a_risenWays])), (a_chosen, .inl (cI, 8, .inl (upd f 0 7))), (a_bestChosen, .inl (cI, 8, .inl g))] H := hP
            have hD : va_D A [(m0, .inr (9, [.int i_thrown, .int i_told, .ref a_row, .ref a_tape, .int i_taped, .int i_at, .int i_to, .int 0, .ref a_number, .ref a_read, .int i_readMany, .ref a_readBits, .ref a_stands, .ref a_parted, .ref a_bitsWere, .ref a_stood, .ref a_chosen, .ref a_bestChosen, .int (-1), .ref a_often, .ref a_sorted, .int i_size, .ref a_risen, .ref a_risenWays])), (a_chosen, .inl (cI, 8, .inl (upd f 0 7))), (a_bestChosen, .inl (cI, 8, .inl g))] := hD
            refine lv_aload_n hx hb dX9_triesBits_121 rfl (lv_at hl 1 rfl) ?_
            refine lv_iload hx hb dX9_triesBits_122 (lv_at hl 0 rfl) ?_
            refine my_gpI (my_pV (As := [.int 7]) (rest := []) (ci := 9) ⟨hx, hb, hml, hown, hts⟩ (cwV 1 hts gX9_triesBits_X9_runsOf rfl rfl rfl (by decide +kernel) ⟨Nat.le_of_ble_eq_true rfl, Nat.le_of_ble_eq_true rfl⟩) hN hK hP [0] rfl 0 rfl rfl rfl rfl hl.1 rfl (Nat.le_of_ble_eq_true rfl) dX9_triesBits_124 ⟨Nat.le_of_ble_eq_true rfl, Nat.le_of_ble_eq_true rfl⟩  (k0_X9_runsOf l D cI cJ m0 a_row a_tape a_number a_read a_readBits a_stands a_parted a_bitsWere a_stood a_chosen a_bestChosen a_often a_sorted a_risen a_risenWays i_thrown i_told i_taped i_at i_to i_readMany (-1 : Int32) i_size (7 : Int32))) (fun r hp => ?_)
            obtain rfl := hp
            refine lv_istore (lv' := [(5, .int 0), (4, .int 7), (0, .ref m0), (1, .int 0), (2, .int 0), (3, .int 0)]) hx hb dX9_triesBits_127 hl (by decide) rfl (fun ls hl => ?_)
            refine lv_aload_n hx hb dX9_triesBits_129 rfl (lv_at hl 2 rfl) ?_
            refine lv_iload hx hb dX9_triesBits_130 (lv_at hl 1 rfl) ?_
            refine my_goV (wr := [(a_chosen, .inl (cI, 8, .inl (upd f 0 7))), (a_bestChosen, .inl (cI, 8, .inl g))]) hP hD hS hA [0] [1, 2] rfl rfl (by decide) (by decide) (my_cV (As := [.int 7]) (rest := []) (ci := 9) (wc := [(m0, .inr (9, [.int i_thrown, .int i_told, .ref a_row, .ref a_tape, .int i_taped, .int i_at, .int i_to, .int 0, .ref a_number, .ref a_read, .int i_readMany, .ref a_readBits, .ref a_stands, .ref a_parted, .ref a_bitsWere, .ref a_stood, .ref a_chosen, .ref a_bestChosen, .int (-1), .ref a_often, .ref a_sorted, .int i_size, .ref a_risen, .ref a_risenWays]))]) ⟨hx, hb, hml, hown, hts⟩ (cwV 1 hts gX9_triesBits_X9_parts rfl rfl rfl (by decide +kernel) ⟨Nat.le_of_ble_eq_true rfl, Nat.le_of_ble_eq_true rfl⟩) hN hK hP hD [0] rfl (by decide) rfl 0 rfl rfl rfl rfl hl.1 rfl (Nat.le_of_ble_eq_true rfl) dX9_triesBits_132 ⟨Nat.le_of_ble_eq_true rfl, Nat.le_of_ble_eq_true rfl⟩  ((k0_X9_parts l D cI cJ m0 a_row a_tape a_number a_read a_readBits a_stands a_parted a_bitsWere a_stood a_chosen a_bestChosen a_often a_sorted a_risen a_risenWays i_thrown i_told i_taped i_at i_to i_readMany (-1 : Int32) i_size (7 : Int32)) _)) (fun u H locs hp hP hD hS => ?_)
            obtain rfl := hp
            have hP : va_P D vwCl [(a_chosen, .inl (cI, 8, .inl (upd f 0 7))), (a_bestChosen, .inl (cI, 8, .inl g)), (m0, .inr (9, [.int i_thrown, .int i_told, .ref a_row, .ref a_tape, .int i_taped, .int i_at, .int i_to, .int 0, .ref a_number, .ref a_read, .int i_readMany, .ref a_readBits, .ref a_stands, .ref a_parted, .ref a_bitsWere, .ref a_stood, .ref a_chosen, .ref a_bestChosen, .int (-1), .ref a_often, .ref a_sorted, .int i_size, .ref a_risen, .ref a_risenWays]))] H := hP
            have hD : va_D A [(a_chosen, .inl (cI, 8, .inl (upd f 0 7))), (a_bestChosen, .inl (cI, 8, .inl g)), (m0, .inr (9, [.int i_thrown, .int i_told, .ref a_row, .ref a_tape, .int i_taped, .int i_at, .int i_to, .int 0, .ref a_number, .ref a_read, .int i_readMany, .ref a_readBits, .ref a_stands, .ref a_parted, .ref a_bitsWere, .ref a_stood, .ref a_chosen, .ref a_bestChosen, .int (-1), .ref a_often, .ref a_sorted, .int i_size, .ref a_risen, .ref a_risenWays]))] := hD
            refine lv_aload_n hx hb dX9_triesBits_135 rfl (lv_at hl 2 rfl) ?_
            refine lv_iload_n hx hb dX9_triesBits_136 rfl (lv_at hl 3 rfl) ?_
            refine lv_iconst (v := 1) hx hb dX9_triesBits_137 (by decide +kernel) ?_
            refine lv_iadd hx hb dX9_triesBits_138 ?_
            refine my_eqi (y := 1) (by decide +kernel) ?_
            refine lv_iload_n hx hb dX9_triesBits_139 rfl (lv_at hl 4 rfl) ?_
            refine lv_iconst (v := 1) hx hb dX9_triesBits_140 (by decide +kernel) ?_
            refine lv_iload hx hb dX9_triesBits_141 (lv_at hl 1 rfl) ?_
            refine lv_ishl hx hb dX9_triesBits_143 ?_
            refine my_eqi (y := 128) (by decide +kernel) ?_
            refine lv_ior hx hb dX9_triesBits_144 ?_
            refine my_eqi (y := 128) (by decide +kernel) ?_
            refine lv_iload_n hx hb dX9_triesBits_145 rfl (lv_at hl 5 rfl) ?_
            refine lv_iload hx hb dX9_triesBits_146 (lv_at hl 0 rfl) ?_
            refine lv_iadd hx hb dX9_triesBits_148 ?_
            refine my_eqi (y := 0) (by decide +kernel) ?_
            refine my_goV (wr := []) hP hD hS hA [2, 0, 1] [] rfl rfl (by decide) (by decide) (my_cV (As := [.int 1, .int 128, .int 0]) (rest := []) (ci := 9) (wc := [(m0, .inr (9, [.int i_thrown, .int i_told, .ref a_row, .ref a_tape, .int i_taped, .int i_at, .int i_to, .int 0, .ref a_number, .ref a_read, .int i_readMany, .ref a_readBits, .ref a_stands, .ref a_parted, .ref a_bitsWere, .ref a_stood, .ref a_chosen, .ref a_bestChosen, .int (-1), .ref a_often, .ref a_sorted, .int i_size, .ref a_risen, .ref a_risenWays])), (a_chosen, .inl (cI, 8, .inl (upd f 0 7))), (a_bestChosen, .inl (cI, 8, .inl g))]) ⟨hx, hb, hml, hown, hts⟩ (cwV 3 hts gX9_triesBits_X9_triesBits rfl rfl rfl (by decide +kernel) ⟨Nat.le_of_ble_eq_true rfl, Nat.le_of_ble_eq_true rfl⟩) hN hK hP hD [2, 0, 1] rfl (by decide) rfl 2 rfl rfl rfl rfl hl.1 rfl (Nat.le_of_ble_eq_true rfl) dX9_triesBits_149 ⟨Nat.le_of_ble_eq_true rfl, Nat.le_of_ble_eq_true rfl⟩  ((k0_X9_triesBits_1 l D cI cJ m0 a_row a_tape a_number a_read a_readBits a_stands a_parted a_bitsWere a_stood a_chosen a_bestChosen a_often a_sorted a_risen a_risenWays i_thrown i_told i_taped i_at i_to i_readMany i_size (upd f 0 7) g) _)) (fun u H locs hp hP hD hS => ?_)
            obtain ⟨f_1, g_2, rfl⟩ := hp
            have hP : va_P D vwCl [(m0, .inr (9, [.int i_thrown, .int i_told, .ref a_row, .ref a_tape, .int i_taped, .int i_at, .int i_to, .int 0, .ref a_number, .ref a_read, .int i_readMany, .ref a_readBits, .ref a_stands, .ref a_parted, .ref a_bitsWere, .ref a_stood, .ref a_chosen, .ref a_bestChosen, .int 0, .ref a_often, .ref a_sorted, .int i_size, .ref a_risen, .ref a_risenWays])), (a_chosen, .inl (cI, 8, .inl f_1)), (a_bestChosen, .inl (cI, 8, .inl g_2))] H := hP
            have hD : va_D A [(m0, .inr (9, [.int i_thrown, .int i_told, .ref a_row, .ref a_tape, .int i_taped, .int i_at, .int i_to, .int 0, .ref a_number, .ref a_read, .int i_readMany, .ref a_readBits, .ref a_stands, .ref a_parted, .ref a_bitsWere, .ref a_stood, .ref a_chosen, .ref a_bestChosen, .int 0, .ref a_often, .ref a_sorted, .int i_size, .ref a_risen, .ref a_risenWays])), (a_chosen, .inl (cI, 8, .inl f_1)), (a_bestChosen, .inl (cI, 8, .inl g_2))] := hD
            refine lv_iconst (v := 0) hx hb dX9_triesBits_152 (by decide +kernel) ?_
            refine lv_istore (lv' := [(6, .int 0), (5, .int 0), (4, .int 7), (0, .ref m0), (1, .int 0), (2, .int 0), (3, .int 0)]) hx hb dX9_triesBits_153 hl (by decide) rfl (fun ls hl => ?_)
            refine lv_iload hx hb dX9_triesBits_155 (lv_at hl 0 rfl) ?_
            refine lv_aload_n hx hb dX9_triesBits_157 rfl (lv_at hl 3 rfl) ?_
            refine va_get (ci := 9) (v := .int 0) (C := RX9) (T := TX9) (N := 24) hx hb hts hi9 hown hK hP 0 rfl rfl 7 (by decide) fl88 (fun _ h9 => h9) rfl dX9_triesBits_158 ?_
            refine lv_icmp_ge (tgt := 189) hx hb dX9_triesBits_161 (by decide) (fun c161 => ?_) (fun c161 => ?_)
            ·
              refine lv_iinc (v := 6) (lv' := [(4, .int 6), (6, .int 0), (5, .int 0), (0, .ref m0), (1, .int 0), (2, .int 0), (3, .int 0)]) hx hb dX9_triesBits_189 hl (k := 2) rfl (by decide +kernel) (by decide) rfl (fun ls hl => ?_)
              refine lv_goto (tgt := 99) hx hb dX9_triesBits_192 (by decide) ?_
              refine lv_iload hx hb dX9_triesBits_99 (lv_at hl 0 rfl) ?_
              refine lv_if_lt (tgt := 195) hx hb dX9_triesBits_101 (by decide) (fun c101 => ?_) (fun c101 => ?_)
              ·
                exact absurd c101 (by decide +kernel)
              ·
                refine lv_iload_n hx hb dX9_triesBits_104 rfl (lv_at hl 5 rfl) ?_
                refine lv_iload hx hb dX9_triesBits_105 (lv_at hl 0 rfl) ?_
                refine lv_ishr hx hb dX9_triesBits_107 ?_
                refine my_eqi (y := 0) (by decide +kernel) ?_
                refine lv_iconst (v := 1) hx hb dX9_triesBits_108 (by decide +kernel) ?_
                refine lv_iand hx hb dX9_triesBits_109 ?_
                refine my_eqi (y := 0) (by decide +kernel) ?_
                refine lv_if_ne (tgt := 189) hx hb dX9_triesBits_110 (by decide) (fun c110 => ?_) (fun c110 => ?_)
                ·
                  exact absurd c110 (by decide +kernel)
                ·
                  refine lv_aload_n hx hb dX9_triesBits_113 rfl (lv_at hl 3 rfl) ?_
                  refine va_get (ci := 9) (v := .ref a_chosen) (C := RX9) (T := TX9) (N := 24) hx hb hts hi9 hown hK hP 0 rfl rfl 16 (by decide) fl70 (fun _ h9 => h9) rfl dX9_triesBits_114 ?_
                  refine lv_iload_n hx hb dX9_triesBits_117 rfl (lv_at hl 4 rfl) ?_
                  refine lv_iload hx hb dX9_triesBits_118 (lv_at hl 0 rfl) ?_
                  refine va_iast hx hb hK hP hD hS 1 0 rfl rfl (vp_in_nI (n := 0) (by omega) (by omega)) dX9_triesBits_120 (fun H locs hP hD hS => ?_)
                  have eU : upd f_1 (0 : Int32).toNatClampNeg 6 = upd f_1 0 6 := by rw [show (0 : Int32).toNatClampNeg = 0 from by decide +kernel]
                  rw [eU] at hP hD
                  have hP : va_P D vwCl [(m0, .inr (9, [.int i_thrown, .int i_told, .ref a_row, .ref a_tape, .int i_taped, .int i_at, .int i_to, .int 0, .ref a_number, .ref a_read, .int i_readMany, .ref a_readBits, .ref a_stands, .ref a_parted, .ref a_bitsWere, .ref a_stood, .ref a_chosen, .ref a_bestChosen, .int 0, .ref a_often, .ref a_sorted, .int i_size, .ref a_risen, .ref a_risenWays])), (a_chosen, .inl (cI, 8, .inl (upd f_1 0 6))), (a_bestChosen, .inl (cI, 8, .inl g_2))] H := hP
                  have hD : va_D A [(m0, .inr (9, [.int i_thrown, .int i_told, .ref a_row, .ref a_tape, .int i_taped, .int i_at, .int i_to, .int 0, .ref a_number, .ref a_read, .int i_readMany, .ref a_readBits, .ref a_stands, .ref a_parted, .ref a_bitsWere, .ref a_stood, .ref a_chosen, .ref a_bestChosen, .int 0, .ref a_often, .ref a_sorted, .int i_size, .ref a_risen, .ref a_risenWays])), (a_chosen, .inl (cI, 8, .inl (upd f_1 0 6))), (a_bestChosen, .inl (cI, 8, .inl g_2))] := hD
                  refine lv_aload_n hx hb dX9_triesBits_121 rfl (lv_at hl 3 rfl) ?_
                  refine lv_iload hx hb dX9_triesBits_122 (lv_at hl 0 rfl) ?_
                  refine my_gpI (my_pV (As := [.int 6]) (rest := []) (ci := 9) ⟨hx, hb, hml, hown, hts⟩ (cwV 1 hts gX9_triesBits_X9_runsOf rfl rfl rfl (by decide +kernel) ⟨Nat.le_of_ble_eq_true rfl, Nat.le_of_ble_eq_true rfl⟩) hN hK hP [0] rfl 0 rfl rfl rfl rfl hl.1 rfl (Nat.le_of_ble_eq_true rfl) dX9_triesBits_124 ⟨Nat.le_of_ble_eq_true rfl, Nat.le_of_ble_eq_true rfl⟩  (k0_X9_runsOf l D cI cJ m0 a_row a_tape a_number a_read a_readBits a_stands a_parted a_bitsWere a_stood a_chosen a_bestChosen a_often a_sorted a_risen a_risenWays i_thrown i_told i_taped i_at i_to i_readMany (0 : Int32) i_size (6 : Int32))) (fun r hp => ?_)
                  obtain rfl := hp
                  refine lv_istore (lv' := [(5, .int 0), (4, .int 6), (6, .int 0), (0, .ref m0), (1, .int 0), (2, .int 0), (3, .int 0)]) hx hb dX9_triesBits_127 hl (by decide) rfl (fun ls hl => ?_)
                  refine lv_aload_n hx hb dX9_triesBits_129 rfl (lv_at hl 3 rfl) ?_
                  refine lv_iload hx hb dX9_triesBits_130 (lv_at hl 1 rfl) ?_
                  refine my_goV (wr := [(a_chosen, .inl (cI, 8, .inl (upd f_1 0 6))), (a_bestChosen, .inl (cI, 8, .inl g_2))]) hP hD hS hA [0] [1, 2] rfl rfl (by decide) (by decide) (my_cV (As := [.int 6]) (rest := []) (ci := 9) (wc := [(m0, .inr (9, [.int i_thrown, .int i_told, .ref a_row, .ref a_tape, .int i_taped, .int i_at, .int i_to, .int 0, .ref a_number, .ref a_read, .int i_readMany, .ref a_readBits, .ref a_stands, .ref a_parted, .ref a_bitsWere, .ref a_stood, .ref a_chosen, .ref a_bestChosen, .int 0, .ref a_often, .ref a_sorted, .int i_size, .ref a_risen, .ref a_risenWays]))]) ⟨hx, hb, hml, hown, hts⟩ (cwV 1 hts gX9_triesBits_X9_parts rfl rfl rfl (by decide +kernel) ⟨Nat.le_of_ble_eq_true rfl, Nat.le_of_ble_eq_true rfl⟩) hN hK hP hD [0] rfl (by decide) rfl 0 rfl rfl rfl rfl hl.1 rfl (Nat.le_of_ble_eq_true rfl) dX9_triesBits_132 ⟨Nat.le_of_ble_eq_true rfl, Nat.le_of_ble_eq_true rfl⟩  ((k0_X9_parts l D cI cJ m0 a_row a_tape a_number a_read a_readBits a_stands a_parted a_bitsWere a_stood a_chosen a_bestChosen a_often a_sorted a_risen a_risenWays i_thrown i_told i_taped i_at i_to i_readMany (0 : Int32) i_size (6 : Int32)) _)) (fun u H locs hp hP hD hS => ?_)
                  obtain rfl := hp
                  have hP : va_P D vwCl [(a_chosen, .inl (cI, 8, .inl (upd f_1 0 6))), (a_bestChosen, .inl (cI, 8, .inl g_2)), (m0, .inr (9, [.int i_thrown, .int i_told, .ref a_row, .ref a_tape, .int i_taped, .int i_at, .int i_to, .int 0, .ref a_number, .ref a_read, .int i_readMany, .ref a_readBits, .ref a_stands, .ref a_parted, .ref a_bitsWere, .ref a_stood, .ref a_chosen, .ref a_bestChosen, .int 0, .ref a_often, .ref a_sorted, .int i_size, .ref a_risen, .ref a_risenWays]))] H := hP
                  have hD : va_D A [(a_chosen, .inl (cI, 8, .inl (upd f_1 0 6))), (a_bestChosen, .inl (cI, 8, .inl g_2)), (m0, .inr (9, [.int i_thrown, .int i_told, .ref a_row, .ref a_tape, .int i_taped, .int i_at, .int i_to, .int 0, .ref a_number, .ref a_read, .int i_readMany, .ref a_readBits, .ref a_stands, .ref a_parted, .ref a_bitsWere, .ref a_stood, .ref a_chosen, .ref a_bestChosen, .int 0, .ref a_often, .ref a_sorted, .int i_size, .ref a_risen, .ref a_risenWays]))] := hD
                  refine lv_aload_n hx hb dX9_triesBits_135 rfl (lv_at hl 3 rfl) ?_
                  refine lv_iload_n hx hb dX9_triesBits_136 rfl (lv_at hl 4 rfl) ?_
                  refine lv_iconst (v := 1) hx hb dX9_triesBits_137 (by decide +kernel) ?_
                  refine lv_iadd hx hb dX9_triesBits_138 ?_
                  refine my_eqi (y := 1) (by decide +kernel) ?_
                  refine lv_iload_n hx hb dX9_triesBits_139 rfl (lv_at hl 5 rfl) ?_
                  refine lv_iconst (v := 1) hx hb dX9_triesBits_140 (by decide +kernel) ?_
                  refine lv_iload hx hb dX9_triesBits_141 (lv_at hl 1 rfl) ?_
                  refine lv_ishl hx hb dX9_triesBits_143 ?_
                  refine my_eqi (y := 64) (by decide +kernel) ?_
                  refine lv_ior hx hb dX9_triesBits_144 ?_
                  refine my_eqi (y := 64) (by decide +kernel) ?_
                  refine lv_iload_n hx hb dX9_triesBits_145 rfl (lv_at hl 6 rfl) ?_
                  refine lv_iload hx hb dX9_triesBits_146 (lv_at hl 0 rfl) ?_
                  refine lv_iadd hx hb dX9_triesBits_148 ?_
                  refine my_eqi (y := 0) (by decide +kernel) ?_
                  refine my_goV (wr := [(a_chosen, .inl (cI, 8, .inl (upd f_1 0 6))), (a_bestChosen, .inl (cI, 8, .inl g_2))]) hP hD hS hA [2] [0, 1] rfl rfl (by decide) (by decide) (my_cV (As := [.int 1, .int 64, .int 0]) (rest := []) (ci := 9) (wc := [(m0, .inr (9, [.int i_thrown, .int i_told, .ref a_row, .ref a_tape, .int i_taped, .int i_at, .int i_to, .int 0, .ref a_number, .ref a_read, .int i_readMany, .ref a_readBits, .ref a_stands, .ref a_parted, .ref a_bitsWere, .ref a_stood, .ref a_chosen, .ref a_bestChosen, .int 0, .ref a_often, .ref a_sorted, .int i_size, .ref a_risen, .ref a_risenWays]))]) ⟨hx, hb, hml, hown, hts⟩ (cwV 3 hts gX9_triesBits_X9_triesBits rfl rfl rfl (by decide +kernel) ⟨Nat.le_of_ble_eq_true rfl, Nat.le_of_ble_eq_true rfl⟩) hN hK hP hD [2] rfl (by decide) rfl 2 rfl rfl rfl rfl hl.1 rfl (Nat.le_of_ble_eq_true rfl) dX9_triesBits_149 ⟨Nat.le_of_ble_eq_true rfl, Nat.le_of_ble_eq_true rfl⟩  ((kq_X9_triesBits l D cI cJ m0 a_row a_tape a_number a_read a_readBits a_stands a_parted a_bitsWere a_stood a_chosen a_bestChosen a_often a_sorted a_risen a_risenWays i_thrown i_told i_taped i_at i_to i_readMany i_size (1 : Int32) (64 : Int32)) _)) (fun u H locs hp hP hD hS => ?_)
                  obtain rfl := hp
                  have hP : va_P D vwCl [(a_chosen, .inl (cI, 8, .inl (upd f_1 0 6))), (a_bestChosen, .inl (cI, 8, .inl g_2)), (m0, .inr (9, [.int i_thrown, .int i_told, .ref a_row, .ref a_tape, .int i_taped, .int i_at, .int i_to, .int 0, .ref a_number, .ref a_read, .int i_readMany, .ref a_readBits, .ref a_stands, .ref a_parted, .ref a_bitsWere, .ref a_stood, .ref a_chosen, .ref a_bestChosen, .int 0, .ref a_often, .ref a_sorted, .int i_size, .ref a_risen, .ref a_risenWays]))] H := hP
                  have hD : va_D A [(a_chosen, .inl (cI, 8, .inl (upd f_1 0 6))), (a_bestChosen, .inl (cI, 8, .inl g_2)), (m0, .inr (9, [.int i_thrown, .int i_told, .ref a_row, .ref a_tape, .int i_taped, .int i_at, .int i_to, .int 0, .ref a_number, .ref a_read, .int i_readMany, .ref a_readBits, .ref a_stands, .ref a_parted, .ref a_bitsWere, .ref a_stood, .ref a_chosen, .ref a_bestChosen, .int 0, .ref a_often, .ref a_sorted, .int i_size, .ref a_risen, .ref a_risenWays]))] := hD
                  refine lv_iconst (v := 0) hx hb dX9_triesBits_152 (by decide +kernel) ?_
                  refine lv_istore (lv' := [(6, .int 0), (5, .int 0), (4, .int 6), (0, .ref m0), (1, .int 0), (2, .int 0), (3, .int 0)]) hx hb dX9_triesBits_153 hl (by decide) rfl (fun ls hl => ?_)
                  refine lv_iload hx hb dX9_triesBits_155 (lv_at hl 0 rfl) ?_
                  refine lv_aload_n hx hb dX9_triesBits_157 rfl (lv_at hl 3 rfl) ?_
                  refine va_get (ci := 9) (v := .int 0) (C := RX9) (T := TX9) (N := 24) hx hb hts hi9 hown hK hP 2 rfl rfl 7 (by decide) fl88 (fun _ h9 => h9) rfl dX9_triesBits_158 ?_
                  refine lv_icmp_ge (tgt := 189) hx hb dX9_triesBits_161 (by decide) (fun c161 => ?_) (fun c161 => ?_)
                  ·
                    refine lv_iinc (v := 5) (lv' := [(4, .int 5), (6, .int 0), (5, .int 0), (0, .ref m0), (1, .int 0), (2, .int 0), (3, .int 0)]) hx hb dX9_triesBits_189 hl (k := 2) rfl (by decide +kernel) (by decide) rfl (fun ls hl => ?_)
                    refine lv_goto (tgt := 99) hx hb dX9_triesBits_192 (by decide) ?_
                    refine lv_iload hx hb dX9_triesBits_99 (lv_at hl 0 rfl) ?_
                    refine lv_if_lt (tgt := 195) hx hb dX9_triesBits_101 (by decide) (fun c101 => ?_) (fun c101 => ?_)
                    ·
                      exact absurd c101 (by decide +kernel)
                    ·
                      refine lv_iload_n hx hb dX9_triesBits_104 rfl (lv_at hl 5 rfl) ?_
                      refine lv_iload hx hb dX9_triesBits_105 (lv_at hl 0 rfl) ?_
                      refine lv_ishr hx hb dX9_triesBits_107 ?_
                      refine my_eqi (y := 0) (by decide +kernel) ?_
                      refine lv_iconst (v := 1) hx hb dX9_triesBits_108 (by decide +kernel) ?_
                      refine lv_iand hx hb dX9_triesBits_109 ?_
                      refine my_eqi (y := 0) (by decide +kernel) ?_
                      refine lv_if_ne (tgt := 189) hx hb dX9_triesBits_110 (by decide) (fun c110 => ?_) (fun c110 => ?_)
                      ·
                        exact absurd c110 (by decide +kernel)
                      ·
                        refine lv_aload_n hx hb dX9_triesBits_113 rfl (lv_at hl 3 rfl) ?_
                        refine va_get (ci := 9) (v := .ref a_chosen) (C := RX9) (T := TX9) (N := 24) hx hb hts hi9 hown hK hP 2 rfl rfl 16 (by decide) fl70 (fun _ h9 => h9) rfl dX9_triesBits_114 ?_
                        refine lv_iload_n hx hb dX9_triesBits_117 rfl (lv_at hl 4 rfl) ?_
                        refine lv_iload hx hb dX9_triesBits_118 (lv_at hl 0 rfl) ?_
                        refine va_iast hx hb hK hP hD hS 0 0 rfl rfl (vp_in_nI (n := 0) (by omega) (by omega)) dX9_triesBits_120 (fun H locs hP hD hS => ?_)
                        have eU : upd (upd f_1 0 6) (0 : Int32).toNatClampNeg 5 = upd (upd f_1 0 6) 0 5 := by rw [show (0 : Int32).toNatClampNeg = 0 from by decide +kernel]
                        rw [eU] at hP hD
                        have hP : va_P D vwCl [(a_chosen, .inl (cI, 8, .inl (upd (upd f_1 0 6) 0 5))), (a_bestChosen, .inl (cI, 8, .inl g_2)), (m0, .inr (9, [.int i_thrown, .int i_told, .ref a_row, .ref a_tape, .int i_taped, .int i_at, .int i_to, .int 0, .ref a_number, .ref a_read, .int i_readMany, .ref a_readBits, .ref a_stands, .ref a_parted, .ref a_bitsWere, .ref a_stood, .ref a_chosen, .ref a_bestChosen, .int 0, .ref a_often, .ref a_sorted, .int i_size, .ref a_risen, .ref a_risenWays]))] H := hP
                        have hD : va_D A [(a_chosen, .inl (cI, 8, .inl (upd (upd f_1 0 6) 0 5))), (a_bestChosen, .inl (cI, 8, .inl g_2)), (m0, .inr (9, [.int i_thrown, .int i_told, .ref a_row, .ref a_tape, .int i_taped, .int i_at, .int i_to, .int 0, .ref a_number, .ref a_read, .int i_readMany, .ref a_readBits, .ref a_stands, .ref a_parted, .ref a_bitsWere, .ref a_stood, .ref a_chosen, .ref a_bestChosen, .int 0, .ref a_often, .ref a_sorted, .int i_size, .ref a_risen, .ref a_risenWays]))] := hD
                        refine lv_aload_n hx hb dX9_triesBits_121 rfl (lv_at hl 3 rfl) ?_
                        refine lv_iload hx hb dX9_triesBits_122 (lv_at hl 0 rfl) ?_
                        refine my_gpI (my_pV (As := [.int 5]) (rest := []) (ci := 9) ⟨hx, hb, hml, hown, hts⟩ (cwV 1 hts gX9_triesBits_X9_runsOf rfl rfl rfl (by decide +kernel) ⟨Nat.le_of_ble_eq_true rfl, Nat.le_of_ble_eq_true rfl⟩) hN hK hP [2] rfl 2 rfl rfl rfl rfl hl.1 rfl (Nat.le_of_ble_eq_true rfl) dX9_triesBits_124 ⟨Nat.le_of_ble_eq_true rfl, Nat.le_of_ble_eq_true rfl⟩  (k0_X9_runsOf l D cI cJ m0 a_row a_tape a_number a_read a_readBits a_stands a_parted a_bitsWere a_stood a_chosen a_bestChosen a_often a_sorted a_risen a_risenWays i_thrown i_told i_taped i_at i_to i_readMany (0 : Int32) i_size (5 : Int32))) (fun r hp => ?_)
                        obtain rfl := hp
                        refine lv_istore (lv' := [(5, .int 0), (4, .int 5), (6, .int 0), (0, .ref m0), (1, .int 0), (2, .int 0), (3, .int 0)]) hx hb dX9_triesBits_127 hl (by decide) rfl (fun ls hl => ?_)
                        refine lv_aload_n hx hb dX9_triesBits_129 rfl (lv_at hl 3 rfl) ?_
                        refine lv_iload hx hb dX9_triesBits_130 (lv_at hl 1 rfl) ?_
                        refine my_goV (wr := [(a_chosen, .inl (cI, 8, .inl (upd (upd f_1 0 6) 0 5))), (a_bestChosen, .inl (cI, 8, .inl g_2))]) hP hD hS hA [2] [0, 1] rfl rfl (by decide) (by decide) (my_cV (As := [.int 5]) (rest := []) (ci := 9) (wc := [(m0, .inr (9, [.int i_thrown, .int i_told, .ref a_row, .ref a_tape, .int i_taped, .int i_at, .int i_to, .int 0, .ref a_number, .ref a_read, .int i_readMany, .ref a_readBits, .ref a_stands, .ref a_parted, .ref a_bitsWere, .ref a_stood, .ref a_chosen, .ref a_bestChosen, .int 0, .ref a_often, .ref a_sorted, .int i_size, .ref a_risen, .ref a_risenWays]))]) ⟨hx, hb, hml, hown, hts⟩ (cwV 1 hts gX9_triesBits_X9_parts rfl rfl rfl (by decide +kernel) ⟨Nat.le_of_ble_eq_true rfl, Nat.le_of_ble_eq_true rfl⟩) hN hK hP hD [2] rfl (by decide) rfl 2 rfl rfl rfl rfl hl.1 rfl (Nat.le_of_ble_eq_true rfl) dX9_triesBits_132 ⟨Nat.le_of_ble_eq_true rfl, Nat.le_of_ble_eq_true rfl⟩  ((k0_X9_parts l D cI cJ m0 a_row a_tape a_number a_read a_readBits a_stands a_parted a_bitsWere a_stood a_chosen a_bestChosen a_often a_sorted a_risen a_risenWays i_thrown i_told i_taped i_at i_to i_readMany (0 : Int32) i_size (5 : Int32)) _)) (fun u H locs hp hP hD hS => ?_)
                        obtain rfl := hp
                        have hP : va_P D vwCl [(a_chosen, .inl (cI, 8, .inl (upd (upd f_1 0 6) 0 5))), (a_bestChosen, .inl (cI, 8, .inl g_2)), (m0, .inr (9, [.int i_thrown, .int i_told, .ref a_row, .ref a_tape, .int i_taped, .int i_at, .int i_to, .int 0, .ref a_number, .ref a_read, .int i_readMany, .ref a_readBits, .ref a_stands, .ref a_parted, .ref a_bitsWere, .ref a_stood, .ref a_chosen, .ref a_bestChosen, .int 0, .ref a_often, .ref a_sorted, .int i_size, .ref a_risen, .ref a_risenWays]))] H := hP
                        have hD : va_D A [(a_chosen, .inl (cI, 8, .inl (upd (upd f_1 0 6) 0 5))), (a_bestChosen, .inl (cI, 8, .inl g_2)), (m0, .inr (9, [.int i_thrown, .int i_told, .ref a_row, .ref a_tape, .int i_taped, .int i_at, .int i_to, .int 0, .ref a_number, .ref a_read, .int i_readMany, .ref a_readBits, .ref a_stands, .ref a_parted, .ref a_bitsWere, .ref a_stood, .ref a_chosen, .ref a_bestChosen, .int 0, .ref a_often, .ref a_sorted, .int i_size, .ref a_risen, .ref a_risenWays]))] := hD
                        refine lv_aload_n hx hb dX9_triesBits_135 rfl (lv_at hl 3 rfl) ?_
                        refine lv_iload_n hx hb dX9_triesBits_136 rfl (lv_at hl 4 rfl) ?_
                        refine lv_iconst (v := 1) hx hb dX9_triesBits_137 (by decide +kernel) ?_
                        refine lv_iadd hx hb dX9_triesBits_138 ?_
                        refine my_eqi (y := 1) (by decide +kernel) ?_
                        refine lv_iload_n hx hb dX9_triesBits_139 rfl (lv_at hl 5 rfl) ?_
                        refine lv_iconst (v := 1) hx hb dX9_triesBits_140 (by decide +kernel) ?_
                        refine lv_iload hx hb dX9_triesBits_141 (lv_at hl 1 rfl) ?_
                        refine lv_ishl hx hb dX9_triesBits_143 ?_
                        refine my_eqi (y := 32) (by decide +kernel) ?_
                        refine lv_ior hx hb dX9_triesBits_144 ?_
                        refine my_eqi (y := 32) (by decide +kernel) ?_
                        refine lv_iload_n hx hb dX9_triesBits_145 rfl (lv_at hl 6 rfl) ?_
                        refine lv_iload hx hb dX9_triesBits_146 (lv_at hl 0 rfl) ?_
                        refine lv_iadd hx hb dX9_triesBits_148 ?_
                        refine my_eqi (y := 0) (by decide +kernel) ?_
                        refine my_goV (wr := [(a_chosen, .inl (cI, 8, .inl (upd (upd f_1 0 6) 0 5))), (a_bestChosen, .inl (cI, 8, .inl g_2))]) hP hD hS hA [2] [0, 1] rfl rfl (by decide) (by decide) (my_cV (As := [.int 1, .int 32, .int 0]) (rest := []) (ci := 9) (wc := [(m0, .inr (9, [.int i_thrown, .int i_told, .ref a_row, .ref a_tape, .int i_taped, .int i_at, .int i_to, .int 0, .ref a_number, .ref a_read, .int i_readMany, .ref a_readBits, .ref a_stands, .ref a_parted, .ref a_bitsWere, .ref a_stood, .ref a_chosen, .ref a_bestChosen, .int 0, .ref a_often, .ref a_sorted, .int i_size, .ref a_risen, .ref a_risenWays]))]) ⟨hx, hb, hml, hown, hts⟩ (cwV 3 hts gX9_triesBits_X9_triesBits rfl rfl rfl (by decide +kernel) ⟨Nat.le_of_ble_eq_true rfl, Nat.le_of_ble_eq_true rfl⟩) hN hK hP hD [2] rfl (by decide) rfl 2 rfl rfl rfl rfl hl.1 rfl (Nat.le_of_ble_eq_true rfl) dX9_triesBits_149 ⟨Nat.le_of_ble_eq_true rfl, Nat.le_of_ble_eq_true rfl⟩  ((kq_X9_triesBits l D cI cJ m0 a_row a_tape a_number a_read a_readBits a_stands a_parted a_bitsWere a_stood a_chosen a_bestChosen a_often a_sorted a_risen a_risenWays i_thrown i_told i_taped i_at i_to i_readMany i_size (1 : Int32) (32 : Int32)) _)) (fun u H locs hp hP hD hS => ?_)
                        obtain rfl := hp
                        have hP : va_P D vwCl [(a_chosen, .inl (cI, 8, .inl (upd (upd f_1 0 6) 0 5))), (a_bestChosen, .inl (cI, 8, .inl g_2)), (m0, .inr (9, [.int i_thrown, .int i_told, .ref a_row, .ref a_tape, .int i_taped, .int i_at, .int i_to, .int 0, .ref a_number, .ref a_read, .int i_readMany, .ref a_readBits, .ref a_stands, .ref a_parted, .ref a_bitsWere, .ref a_stood, .ref a_chosen, .ref a_bestChosen, .int 0, .ref a_often, .ref a_sorted, .int i_size, .ref a_risen, .ref a_risenWays]))] H := hP
                        have hD : va_D A [(a_chosen, .inl (cI, 8, .inl (upd (upd f_1 0 6) 0 5))), (a_bestChosen, .inl (cI, 8, .inl g_2)), (m0, .inr (9, [.int i_thrown, .int i_told, .ref a_row, .ref a_tape, .int i_taped, .int i_at, .int i_to, .int 0, .ref a_number, .ref a_read, .int i_readMany, .ref a_readBits, .ref a_stands, .ref a_parted, .ref a_bitsWere, .ref a_stood, .ref a_chosen, .ref a_bestChosen, .int 0, .ref a_often, .ref a_sorted, .int i_size, .ref a_risen, .ref a_risenWays]))] := hD
                        refine lv_iconst (v := 0) hx hb dX9_triesBits_152 (by decide +kernel) ?_
                        refine lv_istore (lv' := [(6, .int 0), (5, .int 0), (4, .int 5), (0, .ref m0), (1, .int 0), (2, .int 0), (3, .int 0)]) hx hb dX9_triesBits_153 hl (by decide) rfl (fun ls hl => ?_)
                        refine lv_iload hx hb dX9_triesBits_155 (lv_at hl 0 rfl) ?_
                        refine lv_aload_n hx hb dX9_triesBits_157 rfl (lv_at hl 3 rfl) ?_
                        refine va_get (ci := 9) (v := .int 0) (C := RX9) (T := TX9) (N := 24) hx hb hts hi9 hown hK hP 2 rfl rfl 7 (by decide) fl88 (fun _ h9 => h9) rfl dX9_triesBits_158 ?_
                        refine lv_icmp_ge (tgt := 189) hx hb dX9_triesBits_161 (by decide) (fun c161 => ?_) (fun c161 => ?_)
                        ·
                          refine lv_iinc (v := 4) (lv' := [(4, .int 4), (6, .int 0), (5, .int 0), (0, .ref m0), (1, .int 0), (2, .int 0), (3, .int 0)]) hx hb dX9_triesBits_189 hl (k := 2) rfl (by decide +kernel) (by decide) rfl (fun ls hl => ?_)
                          refine lv_goto (tgt := 99) hx hb dX9_triesBits_192 (by decide) ?_
                          refine lv_iload hx hb dX9_triesBits_99 (lv_at hl 0 rfl) ?_
                          refine lv_if_lt (tgt := 195) hx hb dX9_triesBits_101 (by decide) (fun c101 => ?_) (fun c101 => ?_)
                          ·
                            exact absurd c101 (by decide +kernel)
                          ·
                            refine lv_iload_n hx hb dX9_triesBits_104 rfl (lv_at hl 5 rfl) ?_
                            refine lv_iload hx hb dX9_triesBits_105 (lv_at hl 0 rfl) ?_
                            refine lv_ishr hx hb dX9_triesBits_107 ?_
                            refine my_eqi (y := 0) (by decide +kernel) ?_
                            refine lv_iconst (v := 1) hx hb dX9_triesBits_108 (by decide +kernel) ?_
                            refine lv_iand hx hb dX9_triesBits_109 ?_
                            refine my_eqi (y := 0) (by decide +kernel) ?_
                            refine lv_if_ne (tgt := 189) hx hb dX9_triesBits_110 (by decide) (fun c110 => ?_) (fun c110 => ?_)
                            ·
                              exact absurd c110 (by decide +kernel)
                            ·
                              refine lv_aload_n hx hb dX9_triesBits_113 rfl (lv_at hl 3 rfl) ?_
                              refine va_get (ci := 9) (v := .ref a_chosen) (C := RX9) (T := TX9) (N := 24) hx hb hts hi9 hown hK hP 2 rfl rfl 16 (by decide) fl70 (fun _ h9 => h9) rfl dX9_triesBits_114 ?_
                              refine lv_iload_n hx hb dX9_triesBits_117 rfl (lv_at hl 4 rfl) ?_
                              refine lv_iload hx hb dX9_triesBits_118 (lv_at hl 0 rfl) ?_
                              refine va_iast hx hb hK hP hD hS 0 0 rfl rfl (vp_in_nI (n := 0) (by omega) (by omega)) dX9_triesBits_120 (fun H locs hP hD hS => ?_)
                              have eU : upd (upd (upd f_1 0 6) 0 5) (0 : Int32).toNatClampNeg 4 = upd (upd (upd f_1 0 6) 0 5) 0 4 := by rw [show (0 : Int32).toNatClampNeg = 0 from by decide +kernel]
                              rw [eU] at hP hD
                              have hP : va_P D vwCl [(a_chosen, .inl (cI, 8, .inl (upd (upd (upd f_1 0 6) 0 5) 0 4))), (a_bestChosen, .inl (cI, 8, .inl g_2)), (m0, .inr (9, [.int i_thrown, .int i_told, .ref a_row, .ref a_tape, .int i_taped, .int i_at, .int i_to, .int 0, .ref a_number, .ref a_read, .int i_readMany, .ref a_readBits, .ref a_stands, .ref a_parted, .ref a_bitsWere, .ref a_stood, .ref a_chosen, .ref a_bestChosen, .int 0, .ref a_often, .ref a_sorted, .int i_size, .ref a_risen, .ref a_risenWays]))] H := hP
                              have hD : va_D A [(a_chosen, .inl (cI, 8, .inl (upd (upd (upd f_1 0 6) 0 5) 0 4))), (a_bestChosen, .inl (cI, 8, .inl g_2)), (m0, .inr (9, [.int i_thrown, .int i_told, .ref a_row, .ref a_tape, .int i_taped, .int i_at, .int i_to, .int 0, .ref a_number, .ref a_read, .int i_readMany, .ref a_readBits, .ref a_stands, .ref a_parted, .ref a_bitsWere, .ref a_stood, .ref a_chosen, .ref a_bestChosen, .int 0, .ref a_often, .ref a_sorted, .int i_size, .ref a_risen, .ref a_risenWays]))] := hD
                              refine lv_aload_n hx hb dX9_triesBits_121 rfl (lv_at hl 3 rfl) ?_
                              refine lv_iload hx hb dX9_triesBits_122 (lv_at hl 0 rfl) ?_
                              refine my_gpI (my_pV (As := [.int 4]) (rest := []) (ci := 9) ⟨hx, hb, hml, hown, hts⟩ (cwV 1 hts gX9_triesBits_X9_runsOf rfl rfl rfl (by decide +kernel) ⟨Nat.le_of_ble_eq_true rfl, Nat.le_of_ble_eq_true rfl⟩) hN hK hP [2] rfl 2 rfl rfl rfl rfl hl.1 rfl (Nat.le_of_ble_eq_true rfl) dX9_triesBits_124 ⟨Nat.le_of_ble_eq_true rfl, Nat.le_of_ble_eq_true rfl⟩  (k0_X9_runsOf l D cI cJ m0 a_row a_tape a_number a_read a_readBits a_stands a_parted a_bitsWere a_stood a_chosen a_bestChosen a_often a_sorted a_risen a_risenWays i_thrown i_told i_taped i_at i_to i_readMany (0 : Int32) i_size (4 : Int32))) (fun r hp => ?_)
                              obtain rfl := hp
                              refine lv_istore (lv' := [(5, .int 0), (4, .int 4), (6, .int 0), (0, .ref m0), (1, .int 0), (2, .int 0), (3, .int 0)]) hx hb dX9_triesBits_127 hl (by decide) rfl (fun ls hl => ?_)
                              refine lv_aload_n hx hb dX9_triesBits_129 rfl (lv_at hl 3 rfl) ?_
                              refine lv_iload hx hb dX9_triesBits_130 (lv_at hl 1 rfl) ?_
                              refine my_goV (wr := [(a_chosen, .inl (cI, 8, .inl (upd (upd (upd f_1 0 6) 0 5) 0 4))), (a_bestChosen, .inl (cI, 8, .inl g_2))]) hP hD hS hA [2] [0, 1] rfl rfl (by decide) (by decide) (my_cV (As := [.int 4]) (rest := []) (ci := 9) (wc := [(m0, .inr (9, [.int i_thrown, .int i_told, .ref a_row, .ref a_tape, .int i_taped, .int i_at, .int i_to, .int 0, .ref a_number, .ref a_read, .int i_readMany, .ref a_readBits, .ref a_stands, .ref a_parted, .ref a_bitsWere, .ref a_stood, .ref a_chosen, .ref a_bestChosen, .int 0, .ref a_often, .ref a_sorted, .int i_size, .ref a_risen, .ref a_risenWays]))]) ⟨hx, hb, hml, hown, hts⟩ (cwV 1 hts gX9_triesBits_X9_parts rfl rfl rfl (by decide +kernel) ⟨Nat.le_of_ble_eq_true rfl, Nat.le_of_ble_eq_true rfl⟩) hN hK hP hD [2] rfl (by decide) rfl 2 rfl rfl rfl rfl hl.1 rfl (Nat.le_of_ble_eq_true rfl) dX9_triesBits_132 ⟨Nat.le_of_ble_eq_true rfl, Nat.le_of_ble_eq_true rfl⟩  ((k0_X9_parts l D cI cJ m0 a_row a_tape a_number a_read a_readBits a_stands a_parted a_bitsWere a_stood a_chosen a_bestChosen a_often a_sorted a_risen a_risenWays i_thrown i_told i_taped i_at i_to i_readMany (0 : Int32) i_size (4 : Int32)) _)) (fun u H locs hp hP hD hS => ?_)
                              obtain rfl := hp
                              have hP : va_P D vwCl [(a_chosen, .inl (cI, 8, .inl (upd (upd (upd f_1 0 6) 0 5) 0 4))), (a_bestChosen, .inl (cI, 8, .inl g_2)), (m0, .inr (9, [.int i_thrown, .int i_told, .ref a_row, .ref a_tape, .int i_taped, .int i_at, .int i_to, .int 0, .ref a_number, .ref a_read, .int i_readMany, .ref a_readBits, .ref a_stands, .ref a_parted, .ref a_bitsWere, .ref a_stood, .ref a_chosen, .ref a_bestChosen, .int 0, .ref a_often, .ref a_sorted, .int i_size, .ref a_risen, .ref a_risenWays]))] H := hP
                              have hD : va_D A [(a_chosen, .inl (cI, 8, .inl (upd (upd (upd f_1 0 6) 0 5) 0 4))), (a_bestChosen, .inl (cI, 8, .inl g_2)), (m0, .inr (9, [.int i_thrown, .int i_told, .ref a_row, .ref a_tape, .int i_taped, .int i_at, .int i_to, .int 0, .ref a_number, .ref a_read, .int i_readMany, .ref a_readBits, .ref a_stands, .ref a_parted, .ref a_bitsWere, .ref a_stood, .ref a_chosen, .ref a_bestChosen, .int 0, .ref a_often, .ref a_sorted, .int i_size, .ref a_risen, .ref a_risenWays]))] := hD
                              refine lv_aload_n hx hb dX9_triesBits_135 rfl (lv_at hl 3 rfl) ?_
                              refine lv_iload_n hx hb dX9_triesBits_136 rfl (lv_at hl 4 rfl) ?_
                              refine lv_iconst (v := 1) hx hb dX9_triesBits_137 (by decide +kernel) ?_
                              refine lv_iadd hx hb dX9_triesBits_138 ?_
                              refine my_eqi (y := 1) (by decide +kernel) ?_
                              refine lv_iload_n hx hb dX9_triesBits_139 rfl (lv_at hl 5 rfl) ?_
                              refine lv_iconst (v := 1) hx hb dX9_triesBits_140 (by decide +kernel) ?_
                              refine lv_iload hx hb dX9_triesBits_141 (lv_at hl 1 rfl) ?_
                              refine lv_ishl hx hb dX9_triesBits_143 ?_
                              refine my_eqi (y := 16) (by decide +kernel) ?_
                              refine lv_ior hx hb dX9_triesBits_144 ?_
                              refine my_eqi (y := 16) (by decide +kernel) ?_
                              refine lv_iload_n hx hb dX9_triesBits_145 rfl (lv_at hl 6 rfl) ?_
                              refine lv_iload hx hb dX9_triesBits_146 (lv_at hl 0 rfl) ?_
                              refine lv_iadd hx hb dX9_triesBits_148 ?_
                              refine my_eqi (y := 0) (by decide +kernel) ?_
                              refine my_goV (wr := [(a_chosen, .inl (cI, 8, .inl (upd (upd (upd f_1 0 6) 0 5) 0 4))), (a_bestChosen, .inl (cI, 8, .inl g_2))]) hP hD hS hA [2] [0, 1] rfl rfl (by decide) (by decide) (my_cV (As := [.int 1, .int 16, .int 0]) (rest := []) (ci := 9) (wc := [(m0, .inr (9, [.int i_thrown, .int i_told, .ref a_row, .ref a_tape, .int i_taped, .int i_at, .int i_to, .int 0, .ref a_number, .ref a_read, .int i_readMany, .ref a_readBits, .ref a_stands, .ref a_parted, .ref a_bitsWere, .ref a_stood, .ref a_chosen, .ref a_bestChosen, .int 0, .ref a_often, .ref a_sorted, .int i_size, .ref a_risen, .ref a_risenWays]))]) ⟨hx, hb, hml, hown, hts⟩ (cwV 3 hts gX9_triesBits_X9_triesBits rfl rfl rfl (by decide +kernel) ⟨Nat.le_of_ble_eq_true rfl, Nat.le_of_ble_eq_true rfl⟩) hN hK hP hD [2] rfl (by decide) rfl 2 rfl rfl rfl rfl hl.1 rfl (Nat.le_of_ble_eq_true rfl) dX9_triesBits_149 ⟨Nat.le_of_ble_eq_true rfl, Nat.le_of_ble_eq_true rfl⟩  ((kq_X9_triesBits l D cI cJ m0 a_row a_tape a_number a_read a_readBits a_stands a_parted a_bitsWere a_stood a_chosen a_bestChosen a_often a_sorted a_risen a_risenWays i_thrown i_told i_taped i_at i_to i_readMany i_size (1 : Int32) (16 : Int32)) _)) (fun u H locs hp hP hD hS => ?_)
                              obtain rfl := hp
                              have hP : va_P D vwCl [(a_chosen, .inl (cI, 8, .inl (upd (upd (upd f_1 0 6) 0 5) 0 4))), (a_bestChosen, .inl (cI, 8, .inl g_2)), (m0, .inr (9, [.int i_thrown, .int i_told, .ref a_row, .ref a_tape, .int i_taped, .int i_at, .int i_to, .int 0, .ref a_number, .ref a_read, .int i_readMany, .ref a_readBits, .ref a_stands, .ref a_parted, .ref a_bitsWere, .ref a_stood, .ref a_chosen, .ref a_bestChosen, .int 0, .ref a_often, .ref a_sorted, .int i_size, .ref a_risen, .ref a_risenWays]))] H := hP
                              have hD : va_D A [(a_chosen, .inl (cI, 8, .inl (upd (upd (upd f_1 0 6) 0 5) 0 4))), (a_bestChosen, .inl (cI, 8, .inl g_2)), (m0, .inr (9, [.int i_thrown, .int i_told, .ref a_row, .ref a_tape, .int i_taped, .int i_at, .int i_to, .int 0, .ref a_number, .ref a_read, .int i_readMany, .ref a_readBits, .ref a_stands, .ref a_parted, .ref a_bitsWere, .ref a_stood, .ref a_chosen, .ref a_bestChosen, .int 0, .ref a_often, .ref a_sorted, .int i_size, .ref a_risen, .ref a_risenWays]))] := hD
                              refine lv_iconst (v := 0) hx hb dX9_triesBits_152 (by decide +kernel) ?_
                              refine lv_istore (lv' := [(6, .int 0), (5, .int 0), (4, .int 4), (0, .ref m0), (1, .int 0), (2, .int 0), (3, .int 0)]) hx hb dX9_triesBits_153 hl (by decide) rfl (fun ls hl => ?_)
                              refine lv_iload hx hb dX9_triesBits_155 (lv_at hl 0 rfl) ?_
                              refine lv_aload_n hx hb dX9_triesBits_157 rfl (lv_at hl 3 rfl) ?_
                              refine va_get (ci := 9) (v := .int 0) (C := RX9) (T := TX9) (N := 24) hx hb hts hi9 hown hK hP 2 rfl rfl 7 (by decide) fl88 (fun _ h9 => h9) rfl dX9_triesBits_158 ?_
                              refine lv_icmp_ge (tgt := 189) hx hb dX9_triesBits_161 (by decide) (fun c161 => ?_) (fun c161 => ?_)
                              ·
                                refine lv_iinc (v := 3) (lv' := [(4, .int 3), (6, .int 0), (5, .int 0), (0, .ref m0), (1, .int 0), (2, .int 0), (3, .int 0)]) hx hb dX9_triesBits_189 hl (k := 2) rfl (by decide +kernel) (by decide) rfl (fun ls hl => ?_)
                                refine lv_goto (tgt := 99) hx hb dX9_triesBits_192 (by decide) ?_
                                refine lv_iload hx hb dX9_triesBits_99 (lv_at hl 0 rfl) ?_
                                refine lv_if_lt (tgt := 195) hx hb dX9_triesBits_101 (by decide) (fun c101 => ?_) (fun c101 => ?_)
                                ·
                                  exact absurd c101 (by decide +kernel)
                                ·
                                  refine lv_iload_n hx hb dX9_triesBits_104 rfl (lv_at hl 5 rfl) ?_
                                  refine lv_iload hx hb dX9_triesBits_105 (lv_at hl 0 rfl) ?_
                                  refine lv_ishr hx hb dX9_triesBits_107 ?_
                                  refine my_eqi (y := 0) (by decide +kernel) ?_
                                  refine lv_iconst (v := 1) hx hb dX9_triesBits_108 (by decide +kernel) ?_
                                  refine lv_iand hx hb dX9_triesBits_109 ?_
                                  refine my_eqi (y := 0) (by decide +kernel) ?_
                                  refine lv_if_ne (tgt := 189) hx hb dX9_triesBits_110 (by decide) (fun c110 => ?_) (fun c110 => ?_)
                                  ·
                                    exact absurd c110 (by decide +kernel)
                                  ·
                                    refine lv_aload_n hx hb dX9_triesBits_113 rfl (lv_at hl 3 rfl) ?_
                                    refine va_get (ci := 9) (v := .ref a_chosen) (C := RX9) (T := TX9) (N := 24) hx hb hts hi9 hown hK hP 2 rfl rfl 16 (by decide) fl70 (fun _ h9 => h9) rfl dX9_triesBits_114 ?_
                                    refine lv_iload_n hx hb dX9_triesBits_117 rfl (lv_at hl 4 rfl) ?_
                                    refine lv_iload hx hb dX9_triesBits_118 (lv_at hl 0 rfl) ?_
                                    refine va_iast hx hb hK hP hD hS 0 0 rfl rfl (vp_in_nI (n := 0) (by omega) (by omega)) dX9_triesBits_120 (fun H locs hP hD hS => ?_)
                                    have eU : upd (upd (upd (upd f_1 0 6) 0 5) 0 4) (0 : Int32).toNatClampNeg 3 = upd (upd (upd (upd f_1 0 6) 0 5) 0 4) 0 3 := by rw [show (0 : Int32).toNatClampNeg = 0 from by decide +kernel]
                                    rw [eU] at hP hD
                                    have hP : va_P D vwCl [(a_chosen, .inl (cI, 8, .inl (upd (upd (upd (upd f_1 0 6) 0 5) 0 4) 0 3))), (a_bestChosen, .inl (cI, 8, .inl g_2)), (m0, .inr (9, [.int i_thrown, .int i_told, .ref a_row, .ref a_tape, .int i_taped, .int i_at, .int i_to, .int 0, .ref a_number, .ref a_read, .int i_readMany, .ref a_readBits, .ref a_stands, .ref a_parted, .ref a_bitsWere, .ref a_stood, .ref a_chosen, .ref a_bestChosen, .int 0, .ref a_often, .ref a_sorted, .int i_size, .ref a_risen, .ref a_risenWays]))] H := hP
                                    have hD : va_D A [(a_chosen, .inl (cI, 8, .inl (upd (upd (upd (upd f_1 0 6) 0 5) 0 4) 0 3))), (a_bestChosen, .inl (cI, 8, .inl g_2)), (m0, .inr (9, [.int i_thrown, .int i_told, .ref a_row, .ref a_tape, .int i_taped, .int i_at, .int i_to, .int 0, .ref a_number, .ref a_read, .int i_readMany, .ref a_readBits, .ref a_stands, .ref a_parted, .ref a_bitsWere, .ref a_stood, .ref a_chosen, .ref a_bestChosen, .int 0, .ref a_often, .ref a_sorted, .int i_size, .ref a_risen, .ref a_risenWays]))] := hD
                                    refine lv_aload_n hx hb dX9_triesBits_121 rfl (lv_at hl 3 rfl) ?_
                                    refine lv_iload hx hb dX9_triesBits_122 (lv_at hl 0 rfl) ?_
                                    refine my_gpI (my_pV (As := [.int 3]) (rest := []) (ci := 9) ⟨hx, hb, hml, hown, hts⟩ (cwV 1 hts gX9_triesBits_X9_runsOf rfl rfl rfl (by decide +kernel) ⟨Nat.le_of_ble_eq_true rfl, Nat.le_of_ble_eq_true rfl⟩) hN hK hP [2] rfl 2 rfl rfl rfl rfl hl.1 rfl (Nat.le_of_ble_eq_true rfl) dX9_triesBits_124 ⟨Nat.le_of_ble_eq_true rfl, Nat.le_of_ble_eq_true rfl⟩  (k0_X9_runsOf l D cI cJ m0 a_row a_tape a_number a_read a_readBits a_stands a_parted a_bitsWere a_stood a_chosen a_bestChosen a_often a_sorted a_risen a_risenWays i_thrown i_told i_taped i_at i_to i_readMany (0 : Int32) i_size (3 : Int32))) (fun r hp => ?_)
                                    obtain rfl := hp
                                    refine lv_istore (lv' := [(5, .int 0), (4, .int 3), (6, .int 0), (0, .ref m0), (1, .int 0), (2, .int 0), (3, .int 0)]) hx hb dX9_triesBits_127 hl (by decide) rfl (fun ls hl => ?_)
                                    refine lv_aload_n hx hb dX9_triesBits_129 rfl (lv_at hl 3 rfl) ?_
                                    refine lv_iload hx hb dX9_triesBits_130 (lv_at hl 1 rfl) ?_
                                    refine my_goV (wr := [(a_chosen, .inl (cI, 8, .inl (upd (upd (upd (upd f_1 0 6) 0 5) 0 4) 0 3))), (a_bestChosen, .inl (cI, 8, .inl g_2))]) hP hD hS hA [2] [0, 1] rfl rfl (by decide) (by decide) (my_cV (As := [.int 3]) (rest := []) (ci := 9) (wc := [(m0, .inr (9, [.int i_thrown, .int i_told, .ref a_row, .ref a_tape, .int i_taped, .int i_at, .int i_to, .int 0, .ref a_number, .ref a_read, .int i_readMany, .ref a_readBits, .ref a_stands, .ref a_parted, .ref a_bitsWere, .ref a_stood, .ref a_chosen, .ref a_bestChosen, .int 0, .ref a_often, .ref a_sorted, .int i_size, .ref a_risen, .ref a_risenWays]))]) ⟨hx, hb, hml, hown, hts⟩ (cwV 1 hts gX9_triesBits_X9_parts rfl rfl rfl (by decide +kernel) ⟨Nat.le_of_ble_eq_true rfl, Nat.le_of_ble_eq_true rfl⟩) hN hK hP hD [2] rfl (by decide) rfl 2 rfl rfl rfl rfl hl.1 rfl (Nat.le_of_ble_eq_true rfl) dX9_triesBits_132 ⟨Nat.le_of_ble_eq_true rfl, Nat.le_of_ble_eq_true rfl⟩  ((k0_X9_parts l D cI cJ m0 a_row a_tape a_number a_read a_readBits a_stands a_parted a_bitsWere a_stood a_chosen a_bestChosen a_often a_sorted a_risen a_risenWays i_thrown i_told i_taped i_at i_to i_readMany (0 : Int32) i_size (3 : Int32)) _)) (fun u H locs hp hP hD hS => ?_)
                                    obtain rfl := hp
                                    have hP : va_P D vwCl [(a_chosen, .inl (cI, 8, .inl (upd (upd (upd (upd f_1 0 6) 0 5) 0 4) 0 3))), (a_bestChosen, .inl (cI, 8, .inl g_2)), (m0, .inr (9, [.int i_thrown, .int i_told, .ref a_row, .ref a_tape, .int i_taped, .int i_at, .int i_to, .int 0, .ref a_number, .ref a_read, .int i_readMany, .ref a_readBits, .ref a_stands, .ref a_parted, .ref a_bitsWere, .ref a_stood, .ref a_chosen, .ref a_bestChosen, .int 0, .ref a_often, .ref a_sorted, .int i_size, .ref a_risen, .ref a_risenWays]))] H := hP
                                    have hD : va_D A [(a_chosen, .inl (cI, 8, .inl (upd (upd (upd (upd f_1 0 6) 0 5) 0 4) 0 3))), (a_bestChosen, .inl (cI, 8, .inl g_2)), (m0, .inr (9, [.int i_thrown, .int i_told, .ref a_row, .ref a_tape, .int i_taped, .int i_at, .int i_to, .int 0, .ref a_number, .ref a_read, .int i_readMany, .ref a_readBits, .ref a_stands, .ref a_parted, .ref a_bitsWere, .ref a_stood, .ref a_chosen, .ref a_bestChosen, .int 0, .ref a_often, .ref a_sorted, .int i_size, .ref a_risen, .ref a_risenWays]))] := hD
                                    refine lv_aload_n hx hb dX9_triesBits_135 rfl (lv_at hl 3 rfl) ?_
                                    refine lv_iload_n hx hb dX9_triesBits_136 rfl (lv_at hl 4 rfl) ?_
                                    refine lv_iconst (v := 1) hx hb dX9_triesBits_137 (by decide +kernel) ?_
                                    refine lv_iadd hx hb dX9_triesBits_138 ?_
                                    refine my_eqi (y := 1) (by decide +kernel) ?_
                                    refine lv_iload_n hx hb dX9_triesBits_139 rfl (lv_at hl 5 rfl) ?_
                                    refine lv_iconst (v := 1) hx hb dX9_triesBits_140 (by decide +kernel) ?_
                                    refine lv_iload hx hb dX9_triesBits_141 (lv_at hl 1 rfl) ?_
                                    refine lv_ishl hx hb dX9_triesBits_143 ?_
                                    refine my_eqi (y := 8) (by decide +kernel) ?_
                                    refine lv_ior hx hb dX9_triesBits_144 ?_
                                    refine my_eqi (y := 8) (by decide +kernel) ?_
                                    refine lv_iload_n hx hb dX9_triesBits_145 rfl (lv_at hl 6 rfl) ?_
                                    refine lv_iload hx hb dX9_triesBits_146 (lv_at hl 0 rfl) ?_
                                    refine lv_iadd hx hb dX9_triesBits_148 ?_
                                    refine my_eqi (y := 0) (by decide +kernel) ?_
                                    refine my_goV (wr := [(a_chosen, .inl (cI, 8, .inl (upd (upd (upd (upd f_1 0 6) 0 5) 0 4) 0 3))), (a_bestChosen, .inl (cI, 8, .inl g_2))]) hP hD hS hA [2] [0, 1] rfl rfl (by decide) (by decide) (my_cV (As := [.int 1, .int 8, .int 0]) (rest := []) (ci := 9) (wc := [(m0, .inr (9, [.int i_thrown, .int i_told, .ref a_row, .ref a_tape, .int i_taped, .int i_at, .int i_to, .int 0, .ref a_number, .ref a_read, .int i_readMany, .ref a_readBits, .ref a_stands, .ref a_parted, .ref a_bitsWere, .ref a_stood, .ref a_chosen, .ref a_bestChosen, .int 0, .ref a_often, .ref a_sorted, .int i_size, .ref a_risen, .ref a_risenWays]))]) ⟨hx, hb, hml, hown, hts⟩ (cwV 3 hts gX9_triesBits_X9_triesBits rfl rfl rfl (by decide +kernel) ⟨Nat.le_of_ble_eq_true rfl, Nat.le_of_ble_eq_true rfl⟩) hN hK hP hD [2] rfl (by decide) rfl 2 rfl rfl rfl rfl hl.1 rfl (Nat.le_of_ble_eq_true rfl) dX9_triesBits_149 ⟨Nat.le_of_ble_eq_true rfl, Nat.le_of_ble_eq_true rfl⟩  ((kq_X9_triesBits l D cI cJ m0 a_row a_tape a_number a_read a_readBits a_stands a_parted a_bitsWere a_stood a_chosen a_bestChosen a_often a_sorted a_risen a_risenWays i_thrown i_told i_taped i_at i_to i_readMany i_size (1 : Int32) (8 : Int32)) _)) (fun u H locs hp hP hD hS => ?_)
                                    obtain rfl := hp
                                    have hP : va_P D vwCl [(a_chosen, .inl (cI, 8, .inl (upd (upd (upd (upd f_1 0 6) 0 5) 0 4) 0 3))), (a_bestChosen, .inl (cI, 8, .inl g_2)), (m0, .inr (9, [.int i_thrown, .int i_told, .ref a_row, .ref a_tape, .int i_taped, .int i_at, .int i_to, .int 0, .ref a_number, .ref a_read, .int i_readMany, .ref a_readBits, .ref a_stands, .ref a_parted, .ref a_bitsWere, .ref a_stood, .ref a_chosen, .ref a_bestChosen, .int 0, .ref a_often, .ref a_sorted, .int i_size, .ref a_risen, .ref a_risenWays]))] H := hP
                                    have hD : va_D A [(a_chosen, .inl (cI, 8, .inl (upd (upd (upd (upd f_1 0 6) 0 5) 0 4) 0 3))), (a_bestChosen, .inl (cI, 8, .inl g_2)), (m0, .inr (9, [.int i_thrown, .int i_told, .ref a_row, .ref a_tape, .int i_taped, .int i_at, .int i_to, .int 0, .ref a_number, .ref a_read, .int i_readMany, .ref a_readBits, .ref a_stands, .ref a_parted, .ref a_bitsWere, .ref a_stood, .ref a_chosen, .ref a_bestChosen, .int 0, .ref a_often, .ref a_sorted, .int i_size, .ref a_risen, .ref a_risenWays]))] := hD
                                    refine lv_iconst (v := 0) hx hb dX9_triesBits_152 (by decide +kernel) ?_
                                    refine lv_istore (lv' := [(6, .int 0), (5, .int 0), (4, .int 3), (0, .ref m0), (1, .int 0), (2, .int 0), (3, .int 0)]) hx hb dX9_triesBits_153 hl (by decide) rfl (fun ls hl => ?_)
                                    refine lv_iload hx hb dX9_triesBits_155 (lv_at hl 0 rfl) ?_
                                    refine lv_aload_n hx hb dX9_triesBits_157 rfl (lv_at hl 3 rfl) ?_
                                    refine va_get (ci := 9) (v := .int 0) (C := RX9) (T := TX9) (N := 24) hx hb hts hi9 hown hK hP 2 rfl rfl 7 (by decide) fl88 (fun _ h9 => h9) rfl dX9_triesBits_158 ?_
                                    refine lv_icmp_ge (tgt := 189) hx hb dX9_triesBits_161 (by decide) (fun c161 => ?_) (fun c161 => ?_)
                                    ·
                                      refine lv_iinc (v := 2) (lv' := [(4, .int 2), (6, .int 0), (5, .int 0), (0, .ref m0), (1, .int 0), (2, .int 0), (3, .int 0)]) hx hb dX9_triesBits_189 hl (k := 2) rfl (by decide +kernel) (by decide) rfl (fun ls hl => ?_)
                                      refine lv_goto (tgt := 99) hx hb dX9_triesBits_192 (by decide) ?_
                                      refine lv_iload hx hb dX9_triesBits_99 (lv_at hl 0 rfl) ?_
                                      refine lv_if_lt (tgt := 195) hx hb dX9_triesBits_101 (by decide) (fun c101 => ?_) (fun c101 => ?_)
                                      ·
                                        exact absurd c101 (by decide +kernel)
                                      ·
                                        refine lv_iload_n hx hb dX9_triesBits_104 rfl (lv_at hl 5 rfl) ?_
                                        refine lv_iload hx hb dX9_triesBits_105 (lv_at hl 0 rfl) ?_
                                        refine lv_ishr hx hb dX9_triesBits_107 ?_
                                        refine my_eqi (y := 0) (by decide +kernel) ?_
                                        refine lv_iconst (v := 1) hx hb dX9_triesBits_108 (by decide +kernel) ?_
                                        refine lv_iand hx hb dX9_triesBits_109 ?_
                                        refine my_eqi (y := 0) (by decide +kernel) ?_
                                        refine lv_if_ne (tgt := 189) hx hb dX9_triesBits_110 (by decide) (fun c110 => ?_) (fun c110 => ?_)
                                        ·
                                          exact absurd c110 (by decide +kernel)
                                        ·
                                          refine lv_aload_n hx hb dX9_triesBits_113 rfl (lv_at hl 3 rfl) ?_
                                          refine va_get (ci := 9) (v := .ref a_chosen) (C := RX9) (T := TX9) (N := 24) hx hb hts hi9 hown hK hP 2 rfl rfl 16 (by decide) fl70 (fun _ h9 => h9) rfl dX9_triesBits_114 ?_
                                          refine lv_iload_n hx hb dX9_triesBits_117 rfl (lv_at hl 4 rfl) ?_
                                          refine lv_iload hx hb dX9_triesBits_118 (lv_at hl 0 rfl) ?_
                                          refine va_iast hx hb hK hP hD hS 0 0 rfl rfl (vp_in_nI (n := 0) (by omega) (by omega)) dX9_triesBits_120 (fun H locs hP hD hS => ?_)
                                          have eU : upd (upd (upd (upd (upd f_1 0 6) 0 5) 0 4) 0 3) (0 : Int32).toNatClampNeg 2 = upd (upd (upd (upd (upd f_1 0 6) 0 5) 0 4) 0 3) 0 2 := by rw [show (0 : Int32).toNatClampNeg = 0 from by decide +kernel]
                                          rw [eU] at hP hD
                                          have hP : va_P D vwCl [(a_chosen, .inl (cI, 8, .inl (upd (upd (upd (upd (upd f_1 0 6) 0 5) 0 4) 0 3) 0 2))), (a_bestChosen, .inl (cI, 8, .inl g_2)), (m0, .inr (9, [.int i_thrown, .int i_told, .ref a_row, .ref a_tape, .int i_taped, .int i_at, .int i_to, .int 0, .ref a_number, .ref a_read, .int i_readMany, .ref a_readBits, .ref a_stands, .ref a_parted, .ref a_bitsWere, .ref a_stood, .ref a_chosen, .ref a_bestChosen, .int 0, .ref a_often, .ref a_sorted, .int i_size, .ref a_risen, .ref a_risenWays]))] H := hP
                                          have hD : va_D A [(a_chosen, .inl (cI, 8, .inl (upd (upd (upd (upd (upd f_1 0 6) 0 5) 0 4) 0 3) 0 2))), (a_bestChosen, .inl (cI, 8, .inl g_2)), (m0, .inr (9, [.int i_thrown, .int i_told, .ref a_row, .ref a_tape, .int i_taped, .int i_at, .int i_to, .int 0, .ref a_number, .ref a_read, .int i_readMany, .ref a_readBits, .ref a_stands, .ref a_parted, .ref a_bitsWere, .ref a_stood, .ref a_chosen, .ref a_bestChosen, .int 0, .ref a_often, .ref a_sorted, .int i_size, .ref a_risen, .ref a_risenWays]))] := hD
                                          refine lv_aload_n hx hb dX9_triesBits_121 rfl (lv_at hl 3 rfl) ?_
                                          refine lv_iload hx hb dX9_triesBits_122 (lv_at hl 0 rfl) ?_
                                          refine my_gpI (my_pV (As := [.int 2]) (rest := []) (ci := 9) ⟨hx, hb, hml, hown, hts⟩ (cwV 1 hts gX9_triesBits_X9_runsOf rfl rfl rfl (by decide +kernel) ⟨Nat.le_of_ble_eq_true rfl, Nat.le_of_ble_eq_true rfl⟩) hN hK hP [2] rfl 2 rfl rfl rfl rfl hl.1 rfl (Nat.le_of_ble_eq_true rfl) dX9_triesBits_124 ⟨Nat.le_of_ble_eq_true rfl, Nat.le_of_ble_eq_true rfl⟩  (k0_X9_runsOf l D cI cJ m0 a_row a_tape a_number a_read a_readBits a_stands a_parted a_bitsWere a_stood a_chosen a_bestChosen a_often a_sorted a_risen a_risenWays i_thrown i_told i_taped i_at i_to i_readMany (0 : Int32) i_size (2 : Int32))) (fun r hp => ?_)
                                          obtain rfl := hp
                                          refine lv_istore (lv' := [(5, .int 0), (4, .int 2), (6, .int 0), (0, .ref m0), (1, .int 0), (2, .int 0), (3, .int 0)]) hx hb dX9_triesBits_127 hl (by decide) rfl (fun ls hl => ?_)
                                          refine lv_aload_n hx hb dX9_triesBits_129 rfl (lv_at hl 3 rfl) ?_
                                          refine lv_iload hx hb dX9_triesBits_130 (lv_at hl 1 rfl) ?_
                                          refine my_goV (wr := [(a_chosen, .inl (cI, 8, .inl (upd (upd (upd (upd (upd f_1 0 6) 0 5) 0 4) 0 3) 0 2))), (a_bestChosen, .inl (cI, 8, .inl g_2))]) hP hD hS hA [2] [0, 1] rfl rfl (by decide) (by decide) (my_cV (As := [.int 2]) (rest := []) (ci := 9) (wc := [(m0, .inr (9, [.int i_thrown, .int i_told, .ref a_row, .ref a_tape, .int i_taped, .int i_at, .int i_to, .int 0, .ref a_number, .ref a_read, .int i_readMany, .ref a_readBits, .ref a_stands, .ref a_parted, .ref a_bitsWere, .ref a_stood, .ref a_chosen, .ref a_bestChosen, .int 0, .ref a_often, .ref a_sorted, .int i_size, .ref a_risen, .ref a_risenWays]))]) ⟨hx, hb, hml, hown, hts⟩ (cwV 1 hts gX9_triesBits_X9_parts rfl rfl rfl (by decide +kernel) ⟨Nat.le_of_ble_eq_true rfl, Nat.le_of_ble_eq_true rfl⟩) hN hK hP hD [2] rfl (by decide) rfl 2 rfl rfl rfl rfl hl.1 rfl (Nat.le_of_ble_eq_true rfl) dX9_triesBits_132 ⟨Nat.le_of_ble_eq_true rfl, Nat.le_of_ble_eq_true rfl⟩  ((k0_X9_parts l D cI cJ m0 a_row a_tape a_number a_read a_readBits a_stands a_parted a_bitsWere a_stood a_chosen a_bestChosen a_often a_sorted a_risen a_risenWays i_thrown i_told i_taped i_at i_to i_readMany (0 : Int32) i_size (2 : Int32)) _)) (fun u H locs hp hP hD hS => ?_)
                                          obtain rfl := hp
                                          have hP : va_P D vwCl [(a_chosen, .inl (cI, 8, .inl (upd (upd (upd (upd (upd f_1 0 6) 0 5) 0 4) 0 3) 0 2))), (a_bestChosen, .inl (cI, 8, .inl g_2)), (m0, .inr (9, [.int i_thrown, .int i_told, .ref a_row, .ref a_tape, .int i_taped, .int i_at, .int i_to, .int 0, .ref a_number, .ref a_read, .int i_readMany, .ref a_readBits, .ref a_stands, .ref a_parted, .ref a_bitsWere, .ref a_stood, .ref a_chosen, .ref a_bestChosen, .int 0, .ref a_often, .ref a_sorted, .int i_size, .ref a_risen, .ref a_risenWays]))] H := hP
                                          have hD : va_D A [(a_chosen, .inl (cI, 8, .inl (upd (upd (upd (upd (upd f_1 0 6) 0 5) 0 4) 0 3) 0 2))), (a_bestChosen, .inl (cI, 8, .inl g_2)), (m0, .inr (9, [.int i_thrown, .int i_told, .ref a_row, .ref a_tape, .int i_taped, .int i_at, .int i_to, .int 0, .ref a_number, .ref a_read, .int i_readMany, .ref a_readBits, .ref a_stands, .ref a_parted, .ref a_bitsWere, .ref a_stood, .ref a_chosen, .ref a_bestChosen, .int 0, .ref a_often, .ref a_sorted, .int i_size, .ref a_risen, .ref a_risenWays]))] := hD
                                          refine lv_aload_n hx hb dX9_triesBits_135 rfl (lv_at hl 3 rfl) ?_
                                          refine lv_iload_n hx hb dX9_triesBits_136 rfl (lv_at hl 4 rfl) ?_
                                          refine lv_iconst (v := 1) hx hb dX9_triesBits_137 (by decide +kernel) ?_
                                          refine lv_iadd hx hb dX9_triesBits_138 ?_
                                          refine my_eqi (y := 1) (by decide +kernel) ?_
                                          refine lv_iload_n hx hb dX9_triesBits_139 rfl (lv_at hl 5 rfl) ?_
                                          refine lv_iconst (v := 1) hx hb dX9_triesBits_140 (by decide +kernel) ?_
                                          refine lv_iload hx hb dX9_triesBits_141 (lv_at hl 1 rfl) ?_
                                          refine lv_ishl hx hb dX9_triesBits_143 ?_
                                          refine my_eqi (y := 4) (by decide +kernel) ?_
                                          refine lv_ior hx hb dX9_triesBits_144 ?_
                                          refine my_eqi (y := 4) (by decide +kernel) ?_
                                          refine lv_iload_n hx hb dX9_triesBits_145 rfl (lv_at hl 6 rfl) ?_
                                          refine lv_iload hx hb dX9_triesBits_146 (lv_at hl 0 rfl) ?_
                                          refine lv_iadd hx hb dX9_triesBits_148 ?_
                                          refine my_eqi (y := 0) (by decide +kernel) ?_
                                          refine my_goV (wr := [(a_chosen, .inl (cI, 8, .inl (upd (upd (upd (upd (upd f_1 0 6) 0 5) 0 4) 0 3) 0 2))), (a_bestChosen, .inl (cI, 8, .inl g_2))]) hP hD hS hA [2] [0, 1] rfl rfl (by decide) (by decide) (my_cV (As := [.int 1, .int 4, .int 0]) (rest := []) (ci := 9) (wc := [(m0, .inr (9, [.int i_thrown, .int i_told, .ref a_row, .ref a_tape, .int i_taped, .int i_at, .int i_to, .int 0, .ref a_number, .ref a_read, .int i_readMany, .ref a_readBits, .ref a_stands, .ref a_parted, .ref a_bitsWere, .ref a_stood, .ref a_chosen, .ref a_bestChosen, .int 0, .ref a_often, .ref a_sorted, .int i_size, .ref a_risen, .ref a_risenWays]))]) ⟨hx, hb, hml, hown, hts⟩ (cwV 3 hts gX9_triesBits_X9_triesBits rfl rfl rfl (by decide +kernel) ⟨Nat.le_of_ble_eq_true rfl, Nat.le_of_ble_eq_true rfl⟩) hN hK hP hD [2] rfl (by decide) rfl 2 rfl rfl rfl rfl hl.1 rfl (Nat.le_of_ble_eq_true rfl) dX9_triesBits_149 ⟨Nat.le_of_ble_eq_true rfl, Nat.le_of_ble_eq_true rfl⟩  ((kq_X9_triesBits l D cI cJ m0 a_row a_tape a_number a_read a_readBits a_stands a_parted a_bitsWere a_stood a_chosen a_bestChosen a_often a_sorted a_risen a_risenWays i_thrown i_told i_taped i_at i_to i_readMany i_size (1 : Int32) (4 : Int32)) _)) (fun u H locs hp hP hD hS => ?_)
                                          obtain rfl := hp
                                          have hP : va_P D vwCl [(a_chosen, .inl (cI, 8, .inl (upd (upd (upd (upd (upd f_1 0 6) 0 5) 0 4) 0 3) 0 2))), (a_bestChosen, .inl (cI, 8, .inl g_2)), (m0, .inr (9, [.int i_thrown, .int i_told, .ref a_row, .ref a_tape, .int i_taped, .int i_at, .int i_to, .int 0, .ref a_number, .ref a_read, .int i_readMany, .ref a_readBits, .ref a_stands, .ref a_parted, .ref a_bitsWere, .ref a_stood, .ref a_chosen, .ref a_bestChosen, .int 0, .ref a_often, .ref a_sorted, .int i_size, .ref a_risen, .ref a_risenWays]))] H := hP
                                          have hD : va_D A [(a_chosen, .inl (cI, 8, .inl (upd (upd (upd (upd (upd f_1 0 6) 0 5) 0 4) 0 3) 0 2))), (a_bestChosen, .inl (cI, 8, .inl g_2)), (m0, .inr (9, [.int i_thrown, .int i_told, .ref a_row, .ref a_tape, .int i_taped, .int i_at, .int i_to, .int 0, .ref a_number, .ref a_read, .int i_readMany, .ref a_readBits, .ref a_stands, .ref a_parted, .ref a_bitsWere, .ref a_stood, .ref a_chosen, .ref a_bestChosen, .int 0, .ref a_often, .ref a_sorted, .int i_size, .ref a_risen, .ref a_risenWays]))] := hD
                                          refine lv_iconst (v := 0) hx hb dX9_triesBits_152 (by decide +kernel) ?_
                                          refine lv_istore (lv' := [(6, .int 0), (5, .int 0), (4, .int 2), (0, .ref m0), (1, .int 0), (2, .int 0), (3, .int 0)]) hx hb dX9_triesBits_153 hl (by decide) rfl (fun ls hl => ?_)
                                          refine lv_iload hx hb dX9_triesBits_155 (lv_at hl 0 rfl) ?_
                                          refine lv_aload_n hx hb dX9_triesBits_157 rfl (lv_at hl 3 rfl) ?_
                                          refine va_get (ci := 9) (v := .int 0) (C := RX9) (T := TX9) (N := 24) hx hb hts hi9 hown hK hP 2 rfl rfl 7 (by decide) fl88 (fun _ h9 => h9) rfl dX9_triesBits_158 ?_
                                          refine lv_icmp_ge (tgt := 189) hx hb dX9_triesBits_161 (by decide) (fun c161 => ?_) (fun c161 => ?_)
                                          ·
                                            refine lv_iinc (v := 1) (lv' := [(4, .int 1), (6, .int 0), (5, .int 0), (0, .ref m0), (1, .int 0), (2, .int 0), (3, .int 0)]) hx hb dX9_triesBits_189 hl (k := 2) rfl (by decide +kernel) (by decide) rfl (fun ls hl => ?_)
                                            refine lv_goto (tgt := 99) hx hb dX9_triesBits_192 (by decide) ?_
                                            refine lv_iload hx hb dX9_triesBits_99 (lv_at hl 0 rfl) ?_
                                            refine lv_if_lt (tgt := 195) hx hb dX9_triesBits_101 (by decide) (fun c101 => ?_) (fun c101 => ?_)
                                            ·
                                              exact absurd c101 (by decide +kernel)
                                            ·
                                              refine lv_iload_n hx hb dX9_triesBits_104 rfl (lv_at hl 5 rfl) ?_
                                              refine lv_iload hx hb dX9_triesBits_105 (lv_at hl 0 rfl) ?_
                                              refine lv_ishr hx hb dX9_triesBits_107 ?_
                                              refine my_eqi (y := 0) (by decide +kernel) ?_
                                              refine lv_iconst (v := 1) hx hb dX9_triesBits_108 (by decide +kernel) ?_
                                              refine lv_iand hx hb dX9_triesBits_109 ?_
                                              refine my_eqi (y := 0) (by decide +kernel) ?_
                                              refine lv_if_ne (tgt := 189) hx hb dX9_triesBits_110 (by decide) (fun c110 => ?_) (fun c110 => ?_)
                                              ·
                                                exact absurd c110 (by decide +kernel)
                                              ·
                                                refine lv_aload_n hx hb dX9_triesBits_113 rfl (lv_at hl 3 rfl) ?_
                                                refine va_get (ci := 9) (v := .ref a_chosen) (C := RX9) (T := TX9) (N := 24) hx hb hts hi9 hown hK hP 2 rfl rfl 16 (by decide) fl70 (fun _ h9 => h9) rfl dX9_triesBits_114 ?_
                                                refine lv_iload_n hx hb dX9_triesBits_117 rfl (lv_at hl 4 rfl) ?_
                                                refine lv_iload hx hb dX9_triesBits_118 (lv_at hl 0 rfl) ?_
                                                refine va_iast hx hb hK hP hD hS 0 0 rfl rfl (vp_in_nI (n := 0) (by omega) (by omega)) dX9_triesBits_120 (fun H locs hP hD hS => ?_)
                                                have eU : upd (upd (upd (upd (upd (upd f_1 0 6) 0 5) 0 4) 0 3) 0 2) (0 : Int32).toNatClampNeg 1 = upd (upd (upd (upd (upd (upd f_1 0 6) 0 5) 0 4) 0 3) 0 2) 0 1 := by rw [show (0 : Int32).toNatClampNeg = 0 from by decide +kernel]
                                                rw [eU] at hP hD
                                                have hP : va_P D vwCl [(a_chosen, .inl (cI, 8, .inl (upd (upd (upd (upd (upd (upd f_1 0 6) 0 5) 0 4) 0 3) 0 2) 0 1))), (a_bestChosen, .inl (cI, 8, .inl g_2)), (m0, .inr (9, [.int i_thrown, .int i_told, .ref a_row, .ref a_tape, .int i_taped, .int i_at, .int i_to, .int 0, .ref a_number, .ref a_read, .int i_readMany, .ref a_readBits, .ref a_stands, .ref a_parted, .ref a_bitsWere, .ref a_stood, .ref a_chosen, .ref a_bestChosen, .int 0, .ref a_often, .ref a_sorted, .int i_size, .ref a_risen, .ref a_risenWays]))] H := hP
                                                have hD : va_D A [(a_chosen, .inl (cI, 8, .inl (upd (upd (upd (upd (upd (upd f_1 0 6) 0 5) 0 4) 0 3) 0 2) 0 1))), (a_bestChosen, .inl (cI, 8, .inl g_2)), (m0, .inr (9, [.int i_thrown, .int i_told, .ref a_row, .ref a_tape, .int i_taped, .int i_at, .int i_to, .int 0, .ref a_number, .ref a_read, .int i_readMany, .ref a_readBits, .ref a_stands, .ref a_parted, .ref a_bitsWere, .ref a_stood, .ref a_chosen, .ref a_bestChosen, .int 0, .ref a_often, .ref a_sorted, .int i_size, .ref a_risen, .ref a_risenWays]))] := hD
                                                refine lv_aload_n hx hb dX9_triesBits_121 rfl (lv_at hl 3 rfl) ?_
                                                refine lv_iload hx hb dX9_triesBits_122 (lv_at hl 0 rfl) ?_
                                                refine my_gpI (my_pV (As := [.int 1]) (rest := []) (ci := 9) ⟨hx, hb, hml, hown, hts⟩ (cwV 1 hts gX9_triesBits_X9_runsOf rfl rfl rfl (by decide +kernel) ⟨Nat.le_of_ble_eq_true rfl, Nat.le_of_ble_eq_true rfl⟩) hN hK hP [2] rfl 2 rfl rfl rfl rfl hl.1 rfl (Nat.le_of_ble_eq_true rfl) dX9_triesBits_124 ⟨Nat.le_of_ble_eq_true rfl, Nat.le_of_ble_eq_true rfl⟩  (k0_X9_runsOf l D cI cJ m0 a_row a_tape a_number a_read a_readBits a_stands a_parted a_bitsWere a_stood a_chosen a_bestChosen a_often a_sorted a_risen a_risenWays i_thrown i_told i_taped i_at i_to i_readMany (0 : Int32) i_size (1 : Int32))) (fun r hp => ?_)
                                                obtain rfl := hp
                                                refine lv_istore (lv' := [(5, .int 0), (4, .int 1), (6, .int 0), (0, .ref m0), (1, .int 0), (2, .int 0), (3, .int 0)]) hx hb dX9_triesBits_127 hl (by decide) rfl (fun ls hl => ?_)
                                                refine lv_aload_n hx hb dX9_triesBits_129 rfl (lv_at hl 3 rfl) ?_
                                                refine lv_iload hx hb dX9_triesBits_130 (lv_at hl 1 rfl) ?_
                                                refine my_goV (wr := [(a_chosen, .inl (cI, 8, .inl (upd (upd (upd (upd (upd (upd f_1 0 6) 0 5) 0 4) 0 3) 0 2) 0 1))), (a_bestChosen, .inl (cI, 8, .inl g_2))]) hP hD hS hA [2] [0, 1] rfl rfl (by decide) (by decide) (my_cV (As := [.int 1]) (rest := []) (ci := 9) (wc := [(m0, .inr (9, [.int i_thrown, .int i_told, .ref a_row, .ref a_tape, .int i_taped, .int i_at, .int i_to, .int 0, .ref a_number, .ref a_read, .int i_readMany, .ref a_readBits, .ref a_stands, .ref a_parted, .ref a_bitsWere, .ref a_stood, .ref a_chosen, .ref a_bestChosen, .int 0, .ref a_often, .ref a_sorted, .int i_size, .ref a_risen, .ref a_risenWays]))]) ⟨hx, hb, hml, hown, hts⟩ (cwV 1 hts gX9_triesBits_X9_parts rfl rfl rfl (by decide +kernel) ⟨Nat.le_of_ble_eq_true rfl, Nat.le_of_ble_eq_true rfl⟩) hN hK hP hD [2] rfl (by decide) rfl 2 rfl rfl rfl rfl hl.1 rfl (Nat.le_of_ble_eq_true rfl) dX9_triesBits_132 ⟨Nat.le_of_ble_eq_true rfl, Nat.le_of_ble_eq_true rfl⟩  ((k0_X9_parts l D cI cJ m0 a_row a_tape a_number a_read a_readBits a_stands a_parted a_bitsWere a_stood a_chosen a_bestChosen a_often a_sorted a_risen a_risenWays i_thrown i_told i_taped i_at i_to i_readMany (0 : Int32) i_size (1 : Int32)) _)) (fun u H locs hp hP hD hS => ?_)
                                                obtain rfl := hp
                                                have hP : va_P D vwCl [(a_chosen, .inl (cI, 8, .inl (upd (upd (upd (upd (upd (upd f_1 0 6) 0 5) 0 4) 0 3) 0 2) 0 1))), (a_bestChosen, .inl (cI, 8, .inl g_2)), (m0, .inr (9, [.int i_thrown, .int i_told, .ref a_row, .ref a_tape, .int i_taped, .int i_at, .int i_to, .int 0, .ref a_number, .ref a_read, .int i_readMany, .ref a_readBits, .ref a_stands, .ref a_parted, .ref a_bitsWere, .ref a_stood, .ref a_chosen, .ref a_bestChosen, .int 0, .ref a_often, .ref a_sorted, .int i_size, .ref a_risen, .ref a_risenWays]))] H := hP
                                                have hD : va_D A [(a_chosen, .inl (cI, 8, .inl (upd (upd (upd (upd (upd (upd f_1 0 6) 0 5) 0 4) 0 3) 0 2) 0 1))), (a_bestChosen, .inl (cI, 8, .inl g_2)), (m0, .inr (9, [.int i_thrown, .int i_told, .ref a_row, .ref a_tape, .int i_taped, .int i_at, .int i_to, .int 0, .ref a_number, .ref a_read, .int i_readMany, .ref a_readBits, .ref a_stands, .ref a_parted, .ref a_bitsWere, .ref a_stood, .ref a_chosen, .ref a_bestChosen, .int 0, .ref a_often, .ref a_sorted, .int i_size, .ref a_risen, .ref a_risenWays]))] := hD
                                                refine lv_aload_n hx hb dX9_triesBits_135 rfl (lv_at hl 3 rfl) ?_
                                                refine lv_iload_n hx hb dX9_triesBits_136 rfl (lv_at hl 4 rfl) ?_
                                                refine lv_iconst (v := 1) hx hb dX9_triesBits_137 (by decide +kernel) ?_
                                                refine lv_iadd hx hb dX9_triesBits_138 ?_
                                                refine my_eqi (y := 1) (by decide +kernel) ?_
                                                refine lv_iload_n hx hb dX9_triesBits_139 rfl (lv_at hl 5 rfl) ?_
                                                refine lv_iconst (v := 1) hx hb dX9_triesBits_140 (by decide +kernel) ?_
                                                refine lv_iload hx hb dX9_triesBits_141 (lv_at hl 1 rfl) ?_
                                                refine lv_ishl hx hb dX9_triesBits_143 ?_
                                                refine my_eqi (y := 2) (by decide +kernel) ?_
                                                refine lv_ior hx hb dX9_triesBits_144 ?_
                                                refine my_eqi (y := 2) (by decide +kernel) ?_
                                                refine lv_iload_n hx hb dX9_triesBits_145 rfl (lv_at hl 6 rfl) ?_
                                                refine lv_iload hx hb dX9_triesBits_146 (lv_at hl 0 rfl) ?_
                                                refine lv_iadd hx hb dX9_triesBits_148 ?_
                                                refine my_eqi (y := 0) (by decide +kernel) ?_
                                                refine my_goV (wr := [(a_chosen, .inl (cI, 8, .inl (upd (upd (upd (upd (upd (upd f_1 0 6) 0 5) 0 4) 0 3) 0 2) 0 1))), (a_bestChosen, .inl (cI, 8, .inl g_2))]) hP hD hS hA [2] [0, 1] rfl rfl (by decide) (by decide) (my_cV (As := [.int 1, .int 2, .int 0]) (rest := []) (ci := 9) (wc := [(m0, .inr (9, [.int i_thrown, .int i_told, .ref a_row, .ref a_tape, .int i_taped, .int i_at, .int i_to, .int 0, .ref a_number, .ref a_read, .int i_readMany, .ref a_readBits, .ref a_stands, .ref a_parted, .ref a_bitsWere, .ref a_stood, .ref a_chosen, .ref a_bestChosen, .int 0, .ref a_often, .ref a_sorted, .int i_size, .ref a_risen, .ref a_risenWays]))]) ⟨hx, hb, hml, hown, hts⟩ (cwV 3 hts gX9_triesBits_X9_triesBits rfl rfl rfl (by decide +kernel) ⟨Nat.le_of_ble_eq_true rfl, Nat.le_of_ble_eq_true rfl⟩) hN hK hP hD [2] rfl (by decide) rfl 2 rfl rfl rfl rfl hl.1 rfl (Nat.le_of_ble_eq_true rfl) dX9_triesBits_149 ⟨Nat.le_of_ble_eq_true rfl, Nat.le_of_ble_eq_true rfl⟩  ((kq_X9_triesBits l D cI cJ m0 a_row a_tape a_number a_read a_readBits a_stands a_parted a_bitsWere a_stood a_chosen a_bestChosen a_often a_sorted a_risen a_risenWays i_thrown i_told i_taped i_at i_to i_readMany i_size (1 : Int32) (2 : Int32)) _)) (fun u H locs hp hP hD hS => ?_)
                                                obtain rfl := hp
                                                have hP : va_P D vwCl [(a_chosen, .inl (cI, 8, .inl (upd (upd (upd (upd (upd (upd f_1 0 6) 0 5) 0 4) 0 3) 0 2) 0 1))), (a_bestChosen, .inl (cI, 8, .inl g_2)), (m0, .inr (9, [.int i_thrown, .int i_told, .ref a_row, .ref a_tape, .int i_taped, .int i_at, .int i_to, .int 0, .ref a_number, .ref a_read, .int i_readMany, .ref a_readBits, .ref a_stands, .ref a_parted, .ref a_bitsWere, .ref a_stood, .ref a_chosen, .ref a_bestChosen, .int 0, .ref a_often, .ref a_sorted, .int i_size, .ref a_risen, .ref a_risenWays]))] H := hP
                                                have hD : va_D A [(a_chosen, .inl (cI, 8, .inl (upd (upd (upd (upd (upd (upd f_1 0 6) 0 5) 0 4) 0 3) 0 2) 0 1))), (a_bestChosen, .inl (cI, 8, .inl g_2)), (m0, .inr (9, [.int i_thrown, .int i_told, .ref a_row, .ref a_tape, .int i_taped, .int i_at, .int i_to, .int 0, .ref a_number, .ref a_read, .int i_readMany, .ref a_readBits, .ref a_stands, .ref a_parted, .ref a_bitsWere, .ref a_stood, .ref a_chosen, .ref a_bestChosen, .int 0, .ref a_often, .ref a_sorted, .int i_size, .ref a_risen, .ref a_risenWays]))] := hD
                                                refine lv_iconst (v := 0) hx hb dX9_triesBits_152 (by decide +kernel) ?_
                                                refine lv_istore (lv' := [(6, .int 0), (5, .int 0), (4, .int 1), (0, .ref m0), (1, .int 0), (2, .int 0), (3, .int 0)]) hx hb dX9_triesBits_153 hl (by decide) rfl (fun ls hl => ?_)
                                                refine lv_iload hx hb dX9_triesBits_155 (lv_at hl 0 rfl) ?_
                                                refine lv_aload_n hx hb dX9_triesBits_157 rfl (lv_at hl 3 rfl) ?_
                                                refine va_get (ci := 9) (v := .int 0) (C := RX9) (T := TX9) (N := 24) hx hb hts hi9 hown hK hP 2 rfl rfl 7 (by decide) fl88 (fun _ h9 => h9) rfl dX9_triesBits_158 ?_
                                                refine lv_icmp_ge (tgt := 189) hx hb dX9_triesBits_161 (by decide) (fun c161 => ?_) (fun c161 => ?_)
                                                ·
                                                  refine lv_iinc (v := 0) (lv' := [(4, .int 0), (6, .int 0), (5, .int 0), (0, .ref m0), (1, .int 0), (2, .int 0), (3, .int 0)]) hx hb dX9_triesBits_189 hl (k := 2) rfl (by decide +kernel) (by decide) rfl (fun ls hl => ?_)
                                                  refine lv_goto (tgt := 99) hx hb dX9_triesBits_192 (by decide) ?_
                                                  refine lv_iload hx hb dX9_triesBits_99 (lv_at hl 0 rfl) ?_
                                                  refine lv_if_lt (tgt := 195) hx hb dX9_triesBits_101 (by decide) (fun c101 => ?_) (fun c101 => ?_)
                                                  ·
                                                    exact absurd c101 (by decide +kernel)
                                                  ·
                                                    refine lv_iload_n hx hb dX9_triesBits_104 rfl (lv_at hl 5 rfl) ?_
                                                    refine lv_iload hx hb dX9_triesBits_105 (lv_at hl 0 rfl) ?_
                                                    refine lv_ishr hx hb dX9_triesBits_107 ?_
                                                    refine my_eqi (y := 0) (by decide +kernel) ?_
                                                    refine lv_iconst (v := 1) hx hb dX9_triesBits_108 (by decide +kernel) ?_
                                                    refine lv_iand hx hb dX9_triesBits_109 ?_
                                                    refine my_eqi (y := 0) (by decide +kernel) ?_
                                                    refine lv_if_ne (tgt := 189) hx hb dX9_triesBits_110 (by decide) (fun c110 => ?_) (fun c110 => ?_)
                                                    ·
                                                      exact absurd c110 (by decide +kernel)
                                                    ·
                                                      refine lv_aload_n hx hb dX9_triesBits_113 rfl (lv_at hl 3 rfl) ?_
                                                      refine va_get (ci := 9) (v := .ref a_chosen) (C := RX9) (T := TX9) (N := 24) hx hb hts hi9 hown hK hP 2 rfl rfl 16 (by decide) fl70 (fun _ h9 => h9) rfl dX9_triesBits_114 ?_
                                                      refine lv_iload_n hx hb dX9_triesBits_117 rfl (lv_at hl 4 rfl) ?_
                                                      refine lv_iload hx hb dX9_triesBits_118 (lv_at hl 0 rfl) ?_
                                                      refine va_iast hx hb hK hP hD hS 0 0 rfl rfl (vp_in_nI (n := 0) (by omega) (by omega)) dX9_triesBits_120 (fun H locs hP hD hS => ?_)
                                                      have eU : upd (upd (upd (upd (upd (upd (upd f_1 0 6) 0 5) 0 4) 0 3) 0 2) 0 1) (0 : Int32).toNatClampNeg 0 = upd (upd (upd (upd (upd (upd (upd f_1 0 6) 0 5) 0 4) 0 3) 0 2) 0 1) 0 0 := by rw [show (0 : Int32).toNatClampNeg = 0 from by decide +kernel]
                                                      rw [eU] at hP hD
                                                      have hP : va_P D vwCl [(a_chosen, .inl (cI, 8, .inl (upd (upd (upd (upd (upd (upd (upd f_1 0 6) 0 5) 0 4) 0 3) 0 2) 0 1) 0 0))), (a_bestChosen, .inl (cI, 8, .inl g_2)), (m0, .inr (9, [.int i_thrown, .int i_told, .ref a_row, .ref a_tape, .int i_taped, .int i_at, .int i_to, .int 0, .ref a_number, .ref a_read, .int i_readMany, .ref a_readBits, .ref a_stands, .ref a_parted, .ref a_bitsWere, .ref a_stood, .ref a_chosen, .ref a_bestChosen, .int 0, .ref a_often, .ref a_sorted, .int i_size, .ref a_risen, .ref a_risenWays]))] H := hP
                                                      have hD : va_D A [(a_chosen, .inl (cI, 8, .inl (upd (upd (upd (upd (upd (upd (upd f_1 0 6) 0 5) 0 4) 0 3) 0 2) 0 1) 0 0))), (a_bestChosen, .inl (cI, 8, .inl g_2)), (m0, .inr (9, [.int i_thrown, .int i_told, .ref a_row, .ref a_tape, .int i_taped, .int i_at, .int i_to, .int 0, .ref a_number, .ref a_read, .int i_readMany, .ref a_readBits, .ref a_stands, .ref a_parted, .ref a_bitsWere, .ref a_stood, .ref a_chosen, .ref a_bestChosen, .int 0, .ref a_often, .ref a_sorted, .int i_size, .ref a_risen, .ref a_risenWays]))] := hD
                                                      refine lv_aload_n hx hb dX9_triesBits_121 rfl (lv_at hl 3 rfl) ?_
                                                      refine lv_iload hx hb dX9_triesBits_122 (lv_at hl 0 rfl) ?_
                                                      refine my_gpI (my_pV (As := [.int 0]) (rest := []) (ci := 9) ⟨hx, hb, hml, hown, hts⟩ (cwV 1 hts gX9_triesBits_X9_runsOf rfl rfl rfl (by decide +kernel) ⟨Nat.le_of_ble_eq_true rfl, Nat.le_of_ble_eq_true rfl⟩) hN hK hP [2] rfl 2 rfl rfl rfl rfl hl.1 rfl (Nat.le_of_ble_eq_true rfl) dX9_triesBits_124 ⟨Nat.le_of_ble_eq_true rfl, Nat.le_of_ble_eq_true rfl⟩  (k0_X9_runsOf l D cI cJ m0 a_row a_tape a_number a_read a_readBits a_stands a_parted a_bitsWere a_stood a_chosen a_bestChosen a_often a_sorted a_risen a_risenWays i_thrown i_told i_taped i_at i_to i_readMany (0 : Int32) i_size (0 : Int32))) (fun r hp => ?_)
                                                      obtain rfl := hp
                                                      refine lv_istore (lv' := [(5, .int 0), (4, .int 0), (6, .int 0), (0, .ref m0), (1, .int 0), (2, .int 0), (3, .int 0)]) hx hb dX9_triesBits_127 hl (by decide) rfl (fun ls hl => ?_)
                                                      refine lv_aload_n hx hb dX9_triesBits_129 rfl (lv_at hl 3 rfl) ?_
                                                      refine lv_iload hx hb dX9_triesBits_130 (lv_at hl 1 rfl) ?_
                                                      refine my_goV (wr := [(a_chosen, .inl (cI, 8, .inl (upd (upd (upd (upd (upd (upd (upd f_1 0 6) 0 5) 0 4) 0 3) 0 2) 0 1) 0 0))), (a_bestChosen, .inl (cI, 8, .inl g_2))]) hP hD hS hA [2] [0, 1] rfl rfl (by decide) (by decide) (my_cV (As := [.int 0]) (rest := []) (ci := 9) (wc := [(m0, .inr (9, [.int i_thrown, .int i_told, .ref a_row, .ref a_tape, .int i_taped, .int i_at, .int i_to, .int 0, .ref a_number, .ref a_read, .int i_readMany, .ref a_readBits, .ref a_stands, .ref a_parted, .ref a_bitsWere, .ref a_stood, .ref a_chosen, .ref a_bestChosen, .int 0, .ref a_often, .ref a_sorted, .int i_size, .ref a_risen, .ref a_risenWays]))]) ⟨hx, hb, hml, hown, hts⟩ (cwV 1 hts gX9_triesBits_X9_parts rfl rfl rfl (by decide +kernel) ⟨Nat.le_of_ble_eq_true rfl, Nat.le_of_ble_eq_true rfl⟩) hN hK hP hD [2] rfl (by decide) rfl 2 rfl rfl rfl rfl hl.1 rfl (Nat.le_of_ble_eq_true rfl) dX9_triesBits_132 ⟨Nat.le_of_ble_eq_true rfl, Nat.le_of_ble_eq_true rfl⟩  ((k0_X9_parts l D cI cJ m0 a_row a_tape a_number a_read a_readBits a_stands a_parted a_bitsWere a_stood a_chosen a_bestChosen a_often a_sorted a_risen a_risenWays i_thrown i_told i_taped i_at i_to i_readMany (0 : Int32) i_size (0 : Int32)) _)) (fun u H locs hp hP hD hS => ?_)
                                                      obtain rfl := hp
                                                      have hP : va_P D vwCl [(a_chosen, .inl (cI, 8, .inl (upd (upd (upd (upd (upd (upd (upd f_1 0 6) 0 5) 0 4) 0 3) 0 2) 0 1) 0 0))), (a_bestChosen, .inl (cI, 8, .inl g_2)), (m0, .inr (9, [.int i_thrown, .int i_told, .ref a_row, .ref a_tape, .int i_taped, .int i_at, .int i_to, .int 0, .ref a_number, .ref a_read, .int i_readMany, .ref a_readBits, .ref a_stands, .ref a_parted, .ref a_bitsWere, .ref a_stood, .ref a_chosen, .ref a_bestChosen, .int 0, .ref a_often, .ref a_sorted, .int i_size, .ref a_risen, .ref a_risenWays]))] H := hP
                                                      have hD : va_D A [(a_chosen, .inl (cI, 8, .inl (upd (upd (upd (upd (upd (upd (upd f_1 0 6) 0 5) 0 4) 0 3) 0 2) 0 1) 0 0))), (a_bestChosen, .inl (cI, 8, .inl g_2)), (m0, .inr (9, [.int i_thrown, .int i_told, .ref a_row, .ref a_tape, .int i_taped, .int i_at, .int i_to, .int 0, .ref a_number, .ref a_read, .int i_readMany, .ref a_readBits, .ref a_stands, .ref a_parted, .ref a_bitsWere, .ref a_stood, .ref a_chosen, .ref a_bestChosen, .int 0, .ref a_often, .ref a_sorted, .int i_size, .ref a_risen, .ref a_risenWays]))] := hD
                                                      refine lv_aload_n hx hb dX9_triesBits_135 rfl (lv_at hl 3 rfl) ?_
                                                      refine lv_iload_n hx hb dX9_triesBits_136 rfl (lv_at hl 4 rfl) ?_
                                                      refine lv_iconst (v := 1) hx hb dX9_triesBits_137 (by decide +kernel) ?_
                                                      refine lv_iadd hx hb dX9_triesBits_138 ?_
                                                      refine my_eqi (y := 1) (by decide +kernel) ?_
                                                      refine lv_iload_n hx hb dX9_triesBits_139 rfl (lv_at hl 5 rfl) ?_
                                                      refine lv_iconst (v := 1) hx hb dX9_triesBits_140 (by decide +kernel) ?_
                                                      refine lv_iload hx hb dX9_triesBits_141 (lv_at hl 1 rfl) ?_
                                                      refine lv_ishl hx hb dX9_triesBits_143 ?_
                                                      refine my_eqi (y := 1) (by decide +kernel) ?_
                                                      refine lv_ior hx hb dX9_triesBits_144 ?_
                                                      refine my_eqi (y := 1) (by decide +kernel) ?_
                                                      refine lv_iload_n hx hb dX9_triesBits_145 rfl (lv_at hl 6 rfl) ?_
                                                      refine lv_iload hx hb dX9_triesBits_146 (lv_at hl 0 rfl) ?_
                                                      refine lv_iadd hx hb dX9_triesBits_148 ?_
                                                      refine my_eqi (y := 0) (by decide +kernel) ?_
                                                      refine my_goV (wr := [(a_chosen, .inl (cI, 8, .inl (upd (upd (upd (upd (upd (upd (upd f_1 0 6) 0 5) 0 4) 0 3) 0 2) 0 1) 0 0))), (a_bestChosen, .inl (cI, 8, .inl g_2))]) hP hD hS hA [2] [0, 1] rfl rfl (by decide) (by decide) (my_cV (As := [.int 1, .int 1, .int 0]) (rest := []) (ci := 9) (wc := [(m0, .inr (9, [.int i_thrown, .int i_told, .ref a_row, .ref a_tape, .int i_taped, .int i_at, .int i_to, .int 0, .ref a_number, .ref a_read, .int i_readMany, .ref a_readBits, .ref a_stands, .ref a_parted, .ref a_bitsWere, .ref a_stood, .ref a_chosen, .ref a_bestChosen, .int 0, .ref a_often, .ref a_sorted, .int i_size, .ref a_risen, .ref a_risenWays]))]) ⟨hx, hb, hml, hown, hts⟩ (cwV 3 hts gX9_triesBits_X9_triesBits rfl rfl rfl (by decide +kernel) ⟨Nat.le_of_ble_eq_true rfl, Nat.le_of_ble_eq_true rfl⟩) hN hK hP hD [2] rfl (by decide) rfl 2 rfl rfl rfl rfl hl.1 rfl (Nat.le_of_ble_eq_true rfl) dX9_triesBits_149 ⟨Nat.le_of_ble_eq_true rfl, Nat.le_of_ble_eq_true rfl⟩  ((kq_X9_triesBits l D cI cJ m0 a_row a_tape a_number a_read a_readBits a_stands a_parted a_bitsWere a_stood a_chosen a_bestChosen a_often a_sorted a_risen a_risenWays i_thrown i_told i_taped i_at i_to i_readMany i_size (1 : Int32) (1 : Int32)) _)) (fun u H locs hp hP hD hS => ?_)
                                                      obtain rfl := hp
                                                      have hP : va_P D vwCl [(a_chosen, .inl (cI, 8, .inl (upd (upd (upd (upd (upd (upd (upd f_1 0 6) 0 5) 0 4) 0 3) 0 2) 0 1) 0 0))), (a_bestChosen, .inl (cI, 8, .inl g_2)), (m0, .inr (9, [.int i_thrown, .int i_told, .ref a_row, .ref a_tape, .int i_taped, .int i_at, .int i_to, .int 0, .ref a_number, .ref a_read, .int i_readMany, .ref a_readBits, .ref a_stands, .ref a_parted, .ref a_bitsWere, .ref a_stood, .ref a_chosen, .ref a_bestChosen, .int 0, .ref a_often, .ref a_sorted, .int i_size, .ref a_risen, .ref a_risenWays]))] H := hP
                                                      have hD : va_D A [(a_chosen, .inl (cI, 8, .inl (upd (upd (upd (upd (upd (upd (upd f_1 0 6) 0 5) 0 4) 0 3) 0 2) 0 1) 0 0))), (a_bestChosen, .inl (cI, 8, .inl g_2)), (m0, .inr (9, [.int i_thrown, .int i_told, .ref a_row, .ref a_tape, .int i_taped, .int i_at, .int i_to, .int 0, .ref a_number, .ref a_read, .int i_readMany, .ref a_readBits, .ref a_stands, .ref a_parted, .ref a_bitsWere, .ref a_stood, .ref a_chosen, .ref a_bestChosen, .int 0, .ref a_often, .ref a_sorted, .int i_size, .ref a_risen, .ref a_risenWays]))] := hD
                                                      refine lv_iconst (v := 0) hx hb dX9_triesBits_152 (by decide +kernel) ?_
                                                      refine lv_istore (lv' := [(6, .int 0), (5, .int 0), (4, .int 0), (0, .ref m0), (1, .int 0), (2, .int 0), (3, .int 0)]) hx hb dX9_triesBits_153 hl (by decide) rfl (fun ls hl => ?_)
                                                      refine lv_iload hx hb dX9_triesBits_155 (lv_at hl 0 rfl) ?_
                                                      refine lv_aload_n hx hb dX9_triesBits_157 rfl (lv_at hl 3 rfl) ?_
                                                      refine va_get (ci := 9) (v := .int 0) (C := RX9) (T := TX9) (N := 24) hx hb hts hi9 hown hK hP 2 rfl rfl 7 (by decide) fl88 (fun _ h9 => h9) rfl dX9_triesBits_158 ?_
                                                      refine lv_icmp_ge (tgt := 189) hx hb dX9_triesBits_161 (by decide) (fun c161 => ?_) (fun c161 => ?_)
                                                      ·
                                                        refine lv_iinc (v := (-1)) (lv' := [(4, .int (-1)), (6, .int 0), (5, .int 0), (0, .ref m0), (1, .int 0), (2, .int 0), (3, .int 0)]) hx hb dX9_triesBits_189 hl (k := 2) rfl (by decide +kernel) (by decide) rfl (fun ls hl => ?_)
                                                        refine lv_goto (tgt := 99) hx hb dX9_triesBits_192 (by decide) ?_
                                                        refine lv_iload hx hb dX9_triesBits_99 (lv_at hl 0 rfl) ?_
                                                        refine lv_if_lt (tgt := 195) hx hb dX9_triesBits_101 (by decide) (fun c101 => ?_) (fun c101 => ?_)
                                                        ·
                                                          exact my_retV hx hb hr hlocks hK hS [(m0, .inr (9, [.int i_thrown, .int i_told, .ref a_row, .ref a_tape, .int i_taped, .int i_at, .int i_to, .int 0, .ref a_number, .ref a_read, .int i_readMany, .ref a_readBits, .ref a_stands, .ref a_parted, .ref a_bitsWere, .ref a_stood, .ref a_chosen, .ref a_bestChosen, .int 0, .ref a_often, .ref a_sorted, .int i_size, .ref a_risen, .ref a_risenWays])), (a_chosen, .inl (cI, 8, .inl (upd (upd (upd (upd (upd (upd (upd f_1 0 6) 0 5) 0 4) 0 3) 0 2) 0 1) 0 0))), (a_bestChosen, .inl (cI, 8, .inl g_2))] (hP.sub [2, 0, 1] rfl) (hD.sub [2, 0, 1] (by decide) rfl) (⟨(upd (upd (upd (upd (upd (upd (upd f_1 0 6) 0 5) 0 4) 0 3) 0 2) 0 1) 0 0), g_2, rfl⟩) dX9_triesBits_195
                                                        ·
                                                          exact absurd c101 (by decide +kernel)
                                                      ·
                                                        exact absurd c161 (by decide +kernel)
                                                ·
                                                  exact absurd c161 (by decide +kernel)
                                          ·
                                            exact absurd c161 (by decide +kernel)
                                    ·
                                      exact absurd c161 (by decide +kernel)
                              ·
                                exact absurd c161 (by decide +kernel)
                        ·
                          exact absurd c161 (by decide +kernel)
                  ·
                    exact absurd c161 (by decide +kernel)
            ·
              exact absurd c161 (by decide +kernel)
      ·
        exact absurd c67 (by decide +kernel)
    ·
      exact absurd c19 (by decide +kernel)
  ·
    exact absurd c4 (by decide +kernel)
