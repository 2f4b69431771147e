set_option maxHeartbeats 4000000 in
set_option maxRecDepth 100000 in
theorem k_X9_in (l : Launch) (D : va_G) (cI cJ cK : ClassId) (v9 : Int64) (a9 : Int64) (b9 : Int64) (A_v : Int) (h_v : v9.toInt = A_v) (A_a : Int) (h_a : a9.toInt = A_a) (A_b : Int) (h_b : b9.toInt = A_b) : cpI l yX9_in wsX9_in ({ frames := 0, cells := 0, slots := 0, locals := 0 } : Room) D (tyIJ cI cJ cK) [.long v9, .long a9, .long b9] [] (fun (r : Int32) => (r = 1 ∧ A_a ≤ A_v ∧ A_v ≤ A_b) ∨ (r = 0 ∧ (A_v < A_a ∨ A_b < A_v))) := by
  refine cpI.of (cc := cX9_in) (maxL := 6) (ret := (some .boolean)) (by decide) rfl (Nat.le_of_ble_eq_true rfl) ?_
  intro p e s m below meth c ls hx hb hr hts hown hml hlocks hname hK hN hP hl
  have hl : lv_has ls 6 [(0, .long v9), (2, .long a9), (4, .long b9)] := hl
  have hown : s.vm.findClass RX9 = some m.cls := hown
  refine lv_lload_n hx hb dX9_in_0 rfl (lv_at hl 0 rfl) ?_
  refine lv_lload_n hx hb dX9_in_1 rfl (lv_at hl 1 rfl) ?_
  refine W.lcmp hx hb dX9_in_2 ?_
  refine lv_if_lt (tgt := 17) hx hb dX9_in_3 (by decide) (fun c3 => ?_) (fun c3 => ?_)
  ·
    have d3 : v9.toInt < a9.toInt := my_llt c3 rfl rfl
    refine lv_iconst (v := 0) hx hb dX9_in_17 (by decide +kernel) ?_
    exact my_rpZ hx hb hr hlocks (by decide +kernel) (Or.inr (⟨rfl, (by first | assumption | omega | trivial | decide +kernel)⟩)) dX9_in_18
  ·
    have d3 : v9.toInt ≥ a9.toInt := my_lnlt c3 rfl rfl
    refine lv_lload_n hx hb dX9_in_6 rfl (lv_at hl 0 rfl) ?_
    refine lv_lload hx hb dX9_in_7 (lv_at hl 2 rfl) ?_
    refine W.lcmp hx hb dX9_in_9 ?_
    refine lv_if_gt (tgt := 17) hx hb dX9_in_10 (by decide) (fun c10 => ?_) (fun c10 => ?_)
    ·
      have d10 : v9.toInt > b9.toInt := my_lgt c10 rfl rfl
      refine lv_iconst (v := 0) hx hb dX9_in_17 (by decide +kernel) ?_
      exact my_rpZ hx hb hr hlocks (by decide +kernel) (Or.inr (⟨rfl, (by first | assumption | omega | trivial | decide +kernel)⟩)) dX9_in_18
    ·
      have d10 : v9.toInt ≤ b9.toInt := my_lngt c10 rfl rfl
      refine lv_iconst (v := 1) hx hb dX9_in_13 (by decide +kernel) ?_
      refine lv_goto (tgt := 18) hx hb dX9_in_14 (by decide) ?_
      exact my_rpZ hx hb hr hlocks (by decide +kernel) (Or.inl ⟨rfl, (by first | assumption | omega | trivial | decide +kernel), (by first | assumption | omega | trivial | decide +kernel)⟩) dX9_in_18
set_option maxHeartbeats 4000000 in
set_option maxRecDepth 100000 in
theorem k1_X9_flag (l : Launch) (D : va_G) (cI cJ cK : ClassId)  : cpI l yX9_flag wsX9_flag ({ frames := 0, cells := 0, slots := 0, locals := 0 } : Room) D (tyIJ cI cJ cK) [.int 1] [] (fun (r : Int32) => r = 1) := by
  refine cpI.of (cc := cX9_flag) (maxL := 1) (ret := (some .int)) (by decide) rfl (Nat.le_of_ble_eq_true rfl) ?_
  intro p e s m below meth c ls hx hb hr hts hown hml hlocks hname hK hN hP hl
  have hl : lv_has ls 1 [(0, .int 1)] := hl
  have hown : s.vm.findClass RX9 = some m.cls := hown
  refine lv_iload_n hx hb dX9_flag_0 rfl (lv_at hl 0 rfl) ?_
  refine lv_if_eq (tgt := 8) hx hb dX9_flag_1 (by decide) (fun c1 => ?_) (fun c1 => ?_)
  ·
    exact absurd c1 (by decide +kernel)
  ·
    refine lv_iconst (v := 1) hx hb dX9_flag_4 (by decide +kernel) ?_
    refine lv_goto (tgt := 9) hx hb dX9_flag_5 (by decide) ?_
    exact my_rpI hx hb hr hlocks (rfl) dX9_flag_9
set_option maxHeartbeats 4000000 in
set_option maxRecDepth 100000 in
theorem k0_X9_flag (l : Launch) (D : va_G) (cI cJ cK : ClassId)  : cpI l yX9_flag wsX9_flag ({ frames := 0, cells := 0, slots := 0, locals := 0 } : Room) D (tyIJ cI cJ cK) [.int 0] [] (fun (r : Int32) => r = 0) := by
  refine cpI.of (cc := cX9_flag) (maxL := 1) (ret := (some .int)) (by decide) rfl (Nat.le_of_ble_eq_true rfl) ?_
  intro p e s m below meth c ls hx hb hr hts hown hml hlocks hname hK hN hP hl
  have hl : lv_has ls 1 [(0, .int 0)] := hl
  have hown : s.vm.findClass RX9 = some m.cls := hown
  refine lv_iload_n hx hb dX9_flag_0 rfl (lv_at hl 0 rfl) ?_
  refine lv_if_eq (tgt := 8) hx hb dX9_flag_1 (by decide) (fun c1 => ?_) (fun c1 => ?_)
  ·
    refine lv_iconst (v := 0) hx hb dX9_flag_8 (by decide +kernel) ?_
    exact my_rpI hx hb hr hlocks (rfl) dX9_flag_9
  ·
    exact absurd c1 (by decide +kernel)
abbrev wl_k_X9_enters (cI cJ cK : ClassId) (m0 : Nat) (a_row : Nat) (a_tape : Nat) (a_number : Nat) (a_read : Nat) (a_readBits : Nat) (a_stands : Nat) (a_parted : Nat) (a_bitsWere : Nat) (a_stood : Nat) (a_chosen : Nat) (a_bestChosen : Nat) (a_often : Nat) (a_sorted : Nat) (a_risen : Nat) (a_risenWays : Nat) (v0_ : Int32) (v1_ : Int32) (v2_ : Int32) (v3_ : Int32) (v4_ : Int32) (v5_ : Int32) (v6_ : Int32) (v7_ : Int32) (v8_ : Int32) (v9_ : Nat → Int64) : va_W := [(m0, .inr (9, [.int v0_, .int v1_, .ref a_row, .ref a_tape, .int v2_, .int v3_, .int v4_, .int v5_, .ref a_number, .ref a_read, .int v6_, .ref a_readBits, .ref a_stands, .ref a_parted, .ref a_bitsWere, .ref a_stood, .ref a_chosen, .ref a_bestChosen, .int v7_, .ref a_often, .ref a_sorted, .int v8_, .ref a_risen, .ref a_risenWays])), (a_row, .inl (cJ, 64, .inr (.inl v9_)))]
set_option maxHeartbeats 4000000 in
set_option maxRecDepth 100000 in
theorem k_X9_enters (l : Launch) (D : va_G) (cI cJ cK : ClassId) (m0 : Nat) (a_row : Nat) (a_tape : Nat) (a_number : Nat) (a_read : Nat) (a_readBits : Nat) (a_stands : Nat) (a_parted : Nat) (a_bitsWere : Nat) (a_stood : Nat) (a_chosen : Nat) (a_bestChosen : Nat) (a_often : Nat) (a_sorted : Nat) (a_risen : Nat) (a_risenWays : Nat) (m_thrown : Int32) (m_told : Nat) (m_taped : Nat) (m_at : Nat) (m_to : Nat) (m_many : Nat) (m_readMany : Nat) (m_fewest : Int32) (m_size : Nat) (mr : Nat → Int64) (v9 : Int64) (hz_m_told : m_told ≤ 64) (hz_m_taped : m_taped ≤ 100) (hz_m_at : m_at ≤ 100) (hz_m_to : m_to ≤ 100) (hz_m_many : m_many ≤ 64) (hz_m_readMany : m_readMany ≤ 64) (hz_m_size : m_size ≤ 64) (ht : m_told < 64) : ctV l yX9_enters wsX9_enters ({ frames := 0, cells := 0, slots := 0, locals := 0 } : Room) D (tyIJ cI cJ cK) [.ref m0, .long v9] (wl_k_X9_enters cI cJ cK m0 a_row a_tape a_number a_read a_readBits a_stands a_parted a_bitsWere a_stood a_chosen a_bestChosen a_often a_sorted a_risen a_risenWays m_thrown (nI m_told) (nI m_taped) (nI m_at) (nI m_to) (nI m_many) (nI m_readMany) m_fewest (nI m_size) mr) (fun (u : va_W) => ∃ (m_told' : Nat) (mr' : Nat → Int64), u = (wl_k_X9_enters cI cJ cK m0 a_row a_tape a_number a_read a_readBits a_stands a_parted a_bitsWere a_stood a_chosen a_bestChosen a_often a_sorted a_risen a_risenWays m_thrown (nI m_told') (nI m_taped) (nI m_at) (nI m_to) (nI m_many) (nI m_readMany) m_fewest (nI m_size) mr') ∧ m_told' ≤ 64 ∧ m_told' = m_told + 1) := by
  refine ctV.of (cc := cX9_enters) (maxL := 3) (ret := none) (by decide) rfl (Nat.le_of_ble_eq_true rfl) ?_
  intro p e s m below meth c ls A hx hb hr hts hown hml hlocks hname hA hK hN hP hD hS hl
  have hl : lv_has ls 3 [(0, .ref m0), (1, .long v9)] := hl
  have hown : s.vm.findClass RX9 = some m.cls := hown
  have hi9 : ∀ w ∈ u_ws RX9 TX9 24, w ∈ wsX9_enters := by decide +kernel
  have fl11 := hts (.fieldLink RX9 11 "PlaneColumnModel" "told" "I") (by decide +kernel)
  have fl7 := hts (.fieldLink RX9 7 "PlaneColumnModel" "row" "[J") (by decide +kernel)
  refine lv_aload_n hx hb dX9_enters_0 rfl (lv_at hl 0 rfl) ?_
  refine va_get (ci := 9) (v := .ref a_row) (C := RX9) (T := TX9) (N := 24) hx hb hts hi9 hown hK hP 0 rfl rfl 2 (by decide) fl7 (fun _ h9 => h9) rfl dX9_enters_1 ?_
  refine lv_aload_n hx hb dX9_enters_4 rfl (lv_at hl 0 rfl) ?_
  refine va_get (ci := 9) (v := .int (nI m_told)) (C := RX9) (T := TX9) (N := 24) hx hb hts hi9 hown hK hP 0 rfl rfl 1 (by decide) fl11 (fun _ h9 => h9) rfl dX9_enters_5 ?_
  refine lv_lload_n hx hb dX9_enters_8 rfl (lv_at hl 1 rfl) ?_
  refine va_last hx hb hK hP hD hS 1 1 rfl rfl (vp_in_nI (by omega) (by omega)) dX9_enters_9 (fun H locs hP hD hS => ?_)
  obtain ⟨g_1, eg_1⟩ : ∃ g : Nat → Int64, g = vp_updL mr m_told v9 := ⟨_, rfl⟩
  have eU : vp_updL mr (nI m_told : Int32).toNatClampNeg v9 = g_1 := by rw [eg_1, show (nI m_told : Int32).toNatClampNeg = m_told from nI_clamp (by omega)]
  rw [eU] at hP hD
  have hP : va_P D vwCl (wl_k_X9_enters cI cJ cK m0 a_row a_tape a_number a_read a_readBits a_stands a_parted a_bitsWere a_stood a_chosen a_bestChosen a_often a_sorted a_risen a_risenWays m_thrown (nI m_told) (nI m_taped) (nI m_at) (nI m_to) (nI m_many) (nI m_readMany) m_fewest (nI m_size) g_1) H := hP
  have hD : va_D A (wl_k_X9_enters cI cJ cK m0 a_row a_tape a_number a_read a_readBits a_stands a_parted a_bitsWere a_stood a_chosen a_bestChosen a_often a_sorted a_risen a_risenWays m_thrown (nI m_told) (nI m_taped) (nI m_at) (nI m_to) (nI m_many) (nI m_readMany) m_fewest (nI m_size) g_1) := hD
  refine lv_aload_n hx hb dX9_enters_10 rfl (lv_at hl 0 rfl) ?_
  refine lv_dup hx hb dX9_enters_11 rfl ?_
  refine va_get (ci := 9) (v := .int (nI m_told)) (C := RX9) (T := TX9) (N := 24) hx hb hts hi9 hown hK hP 0 rfl rfl 1 (by decide) fl11 (fun _ h9 => h9) rfl dX9_enters_12 ?_
  refine lv_iconst (v := 1) hx hb dX9_enters_15 (by decide +kernel) ?_
  refine lv_iadd hx hb dX9_enters_16 ?_
  refine my_eqi (y := nI (m_told + 1)) (my_addN m_told 1) ?_
  refine va_put (ci := 9) (v := .int (nI (m_told + 1))) (ty := (.int)) (C := RX9) (T := TX9) (N := 24) hx hb hts hi9 tyX9 tyX9_ok nmX9 hown hK hP hD hS 0 rfl rfl 1 (by decide) fl11 (fun _ h9 => h9) rfl (by decide +kernel) rfl rfl (Nat.le_of_ble_eq_true rfl) dX9_enters_17 (fun H locs hP hD hS => ?_)
  have hP : va_P D vwCl (wl_k_X9_enters cI cJ cK m0 a_row a_tape a_number a_read a_readBits a_stands a_parted a_bitsWere a_stood a_chosen a_bestChosen a_often a_sorted a_risen a_risenWays m_thrown (nI (m_told + 1)) (nI m_taped) (nI m_at) (nI m_to) (nI m_many) (nI m_readMany) m_fewest (nI m_size) g_1) H := hP
  have hD : va_D A (wl_k_X9_enters cI cJ cK m0 a_row a_tape a_number a_read a_readBits a_stands a_parted a_bitsWere a_stood a_chosen a_bestChosen a_often a_sorted a_risen a_risenWays m_thrown (nI (m_told + 1)) (nI m_taped) (nI m_at) (nI m_to) (nI m_many) (nI m_readMany) m_fewest (nI m_size) g_1) := hD
  exact my_retV hx hb hr hlocks hK hS (wl_k_X9_enters cI cJ cK m0 a_row a_tape a_number a_read a_readBits a_stands a_parted a_bitsWere a_stood a_chosen a_bestChosen a_often a_sorted a_risen a_risenWays m_thrown (nI (m_told + 1)) (nI m_taped) (nI m_at) (nI m_to) (nI m_many) (nI m_readMany) m_fewest (nI m_size) g_1) hP hD (⟨(m_told + 1), g_1, rfl, (by first | assumption | omega | trivial | decide +kernel), (by first | assumption | omega | trivial | decide +kernel)⟩) dX9_enters_20
abbrev wl_k_X9_sign (cI cJ cK : ClassId) (m0 : Nat) (a_row : Nat) (a_tape : Nat) (a_number : Nat) (a_read : Nat) (a_readBits : Nat) (a_stands : Nat) (a_parted : Nat) (a_bitsWere : Nat) (a_stood : Nat) (a_chosen : Nat) (a_bestChosen : Nat) (a_often : Nat) (a_sorted : Nat) (a_risen : Nat) (a_risenWays : Nat) (v0_ : Int32) (v1_ : Int32) (v2_ : Int32) (v3_ : Int32) (v4_ : Int32) (v5_ : Int32) (v6_ : Int32) (v7_ : Int32) (v8_ : Int32) (v9_ : Nat → Int32) : va_W := [(m0, .inr (9, [.int v0_, .int v1_, .ref a_row, .ref a_tape, .int v2_, .int v3_, .int v4_, .int v5_, .ref a_number, .ref a_read, .int v6_, .ref a_readBits, .ref a_stands, .ref a_parted, .ref a_bitsWere, .ref a_stood, .ref a_chosen, .ref a_bestChosen, .int v7_, .ref a_often, .ref a_sorted, .int v8_, .ref a_risen, .ref a_risenWays])), (a_tape, .inl (cI, 100, .inl v9_))]
set_option maxHeartbeats 4000000 in
set_option maxRecDepth 100000 in
theorem k_X9_sign (l : Launch) (D : va_G) (cI cJ cK : ClassId) (m0 : Nat) (a_row : Nat) (a_tape : Nat) (a_number : Nat) (a_read : Nat) (a_readBits : Nat) (a_stands : Nat) (a_parted : Nat) (a_bitsWere : Nat) (a_stood : Nat) (a_chosen : Nat) (a_bestChosen : Nat) (a_often : Nat) (a_sorted : Nat) (a_risen : Nat) (a_risenWays : Nat) (m_thrown : Int32) (m_told : Nat) (m_taped : Nat) (m_at : Nat) (m_to : Nat) (m_many : Nat) (m_readMany : Nat) (m_fewest : Int32) (m_size : Nat) (mt : Nat → Int32) (v9 : Int32) (hz_m_told : m_told ≤ 64) (hz_m_taped : m_taped ≤ 100) (hz_m_at : m_at ≤ 100) (hz_m_to : m_to ≤ 100) (hz_m_many : m_many ≤ 64) (hz_m_readMany : m_readMany ≤ 64) (hz_m_size : m_size ≤ 64) (hR_mt : RB 0 255 mt) : ctI l yX9_sign wsX9_sign ({ frames := 0, cells := 0, slots := 0, locals := 0 } : Room) D (tyIJ cI cJ cK) [.ref m0, .int v9] (wl_k_X9_sign cI cJ cK m0 a_row a_tape a_number a_read a_readBits a_stands a_parted a_bitsWere a_stood a_chosen a_bestChosen a_often a_sorted a_risen a_risenWays m_thrown (nI m_told) (nI m_taped) (nI m_at) (nI m_to) (nI m_many) (nI m_readMany) m_fewest (nI m_size) mt) (fun (r : Int32) (u : va_W) => (∃ (m_thrown' : Int32) (m_taped' : Nat) (mt' : Nat → Int32), u = (wl_k_X9_sign cI cJ cK m0 a_row a_tape a_number a_read a_readBits a_stands a_parted a_bitsWere a_stood a_chosen a_bestChosen a_often a_sorted a_risen a_risenWays m_thrown' (nI m_told) (nI m_taped') (nI m_at) (nI m_to) (nI m_many) (nI m_readMany) m_fewest (nI m_size) mt') ∧ r = nI m_taped' ∧ m_taped' ≤ 100 ∧ RB 0 255 mt' ∧ m_taped' = m_taped + 4 ∧ mt' = w4 mt m_taped (sgR v9 24) (sgR v9 16) (sgR v9 8) (sgR v9 0)) ∨ (∃ (m_thrown' : Int32), u = (wl_k_X9_sign cI cJ cK m0 a_row a_tape a_number a_read a_readBits a_stands a_parted a_bitsWere a_stood a_chosen a_bestChosen a_often a_sorted a_risen a_risenWays m_thrown' (nI m_told) (nI m_taped) (nI m_at) (nI m_to) (nI m_many) (nI m_readMany) m_fewest (nI m_size) mt) ∧ r = (-1) ∧ 96 < m_taped)) := by
  refine ctI.of (cc := cX9_sign) (maxL := 3) (ret := (some .int)) (by decide) rfl (Nat.le_of_ble_eq_true rfl) ?_
  intro p e s m below meth c ls A hx hb hr hts hown hml hlocks hname hA hK hN hP hD hS hl
  have hl : lv_has ls 3 [(0, .ref m0), (1, .int v9)] := hl
  have hown : s.vm.findClass RX9 = some m.cls := hown
  have hi9 : ∀ w ∈ u_ws RX9 TX9 24, w ∈ wsX9_sign := by decide +kernel
  have fl1 := hts (.fieldLink RX9 1 "PlaneColumnModel" "thrown" "I") (by decide +kernel)
  have fl14 := hts (.fieldLink RX9 14 "PlaneColumnModel" "taped" "I") (by decide +kernel)
  have fl17 := hts (.fieldLink RX9 17 "PlaneColumnModel" "tape" "[I") (by decide +kernel)
  refine lv_aload_n hx hb dX9_sign_0 rfl (lv_at hl 0 rfl) ?_
  refine lv_iconst (v := 0) hx hb dX9_sign_1 (by decide +kernel) ?_
  refine va_put (ci := 9) (v := .int 0) (ty := (.int)) (C := RX9) (T := TX9) (N := 24) hx hb hts hi9 tyX9 tyX9_ok nmX9 hown hK hP hD hS 0 rfl rfl 0 (by decide) fl1 (fun _ h9 => h9) rfl (by decide +kernel) rfl rfl (Nat.le_of_ble_eq_true rfl) dX9_sign_2 (fun H locs hP hD hS => ?_)
  have hP : va_P D vwCl (wl_k_X9_sign cI cJ cK m0 a_row a_tape a_number a_read a_readBits a_stands a_parted a_bitsWere a_stood a_chosen a_bestChosen a_often a_sorted a_risen a_risenWays 0 (nI m_told) (nI m_taped) (nI m_at) (nI m_to) (nI m_many) (nI m_readMany) m_fewest (nI m_size) mt) H := hP
  have hD : va_D A (wl_k_X9_sign cI cJ cK m0 a_row a_tape a_number a_read a_readBits a_stands a_parted a_bitsWere a_stood a_chosen a_bestChosen a_often a_sorted a_risen a_risenWays 0 (nI m_told) (nI m_taped) (nI m_at) (nI m_to) (nI m_many) (nI m_readMany) m_fewest (nI m_size) mt) := hD
  refine lv_aload_n hx hb dX9_sign_5 rfl (lv_at hl 0 rfl) ?_
  refine va_get (ci := 9) (v := .int (nI m_taped)) (C := RX9) (T := TX9) (N := 24) hx hb hts hi9 hown hK hP 0 rfl rfl 4 (by decide) fl14 (fun _ h9 => h9) rfl dX9_sign_6 ?_
  refine lv_bipush (v := 96) hx hb dX9_sign_9 (by decide +kernel) ?_
  refine lv_icmp_le (tgt := 16) hx hb dX9_sign_11 (by decide) (fun c11 => ?_) (fun c11 => ?_)
  ·
    have d11 : ((m_taped : Nat) : Int) ≤ (96 : Int) := my_le c11 (nI_toInt (by omega)) (by decide +kernel)
    refine lv_iconst (v := 0) hx hb dX9_sign_16 (by decide +kernel) ?_
    refine lv_istore_n (lv' := [(2, .int 0), (0, .ref m0), (1, .int v9)]) hx hb dX9_sign_17 rfl hl (by decide) rfl (fun ls hl => ?_)
    refine lv_iload_n hx hb dX9_sign_18 rfl (lv_at hl 0 rfl) ?_
    refine lv_iconst (v := 4) hx hb dX9_sign_19 (by decide +kernel) ?_
    refine lv_icmp_ge (tgt := 53) hx hb dX9_sign_20 (by decide) (fun c20 => ?_) (fun c20 => ?_)
    ·
      exact absurd c20 (by decide +kernel)
    ·
      refine lv_aload_n hx hb dX9_sign_23 rfl (lv_at hl 1 rfl) ?_
      refine va_get (ci := 9) (v := .ref a_tape) (C := RX9) (T := TX9) (N := 24) hx hb hts hi9 hown hK hP 0 rfl rfl 3 (by decide) fl17 (fun _ h9 => h9) rfl dX9_sign_24 ?_
      refine lv_aload_n hx hb dX9_sign_27 rfl (lv_at hl 1 rfl) ?_
      refine va_get (ci := 9) (v := .int (nI m_taped)) (C := RX9) (T := TX9) (N := 24) hx hb hts hi9 hown hK hP 0 rfl rfl 4 (by decide) fl14 (fun _ h9 => h9) rfl dX9_sign_28 ?_
      refine lv_iload_n hx hb dX9_sign_31 rfl (lv_at hl 0 rfl) ?_
      refine lv_iadd hx hb dX9_sign_32 ?_
      refine my_eqi (y := nI m_taped) (my_addN m_taped 0) ?_
      refine lv_iload_n hx hb dX9_sign_33 rfl (lv_at hl 2 rfl) ?_
      refine lv_bipush (v := 24) hx hb dX9_sign_34 (by decide +kernel) ?_
      refine lv_bipush (v := 8) hx hb dX9_sign_36 (by decide +kernel) ?_
      refine lv_iload_n hx hb dX9_sign_38 rfl (lv_at hl 0 rfl) ?_
      refine lv_imul hx hb dX9_sign_39 ?_
      refine my_eqi (y := 0) (by decide +kernel) ?_
      refine lv_isub hx hb dX9_sign_40 ?_
      refine my_eqi (y := 24) (by decide +kernel) ?_
      refine lv_ishr hx hb dX9_sign_41 ?_
      refine lv_topi (fun z_1 ez_1 => ?_)
      try have hbz_1 : 0 ≤ z_1.toInt ∧ z_1.toInt ≤ v9.toInt := by rw [ez_1]; exact my_shrR (s := 24) (by omega) (by omega)
      refine lv_sipush (v := 255) hx hb dX9_sign_42 (by decide +kernel) ?_
      refine lv_iand hx hb dX9_sign_45 ?_
      refine lv_topi (fun z_2 ez_2 => ?_)
      have hbz_2 : 0 ≤ z_2.toInt ∧ z_2.toInt ≤ 255 := by rw [ez_2]; exact my_andR (by decide +kernel) (by decide +kernel)
      refine va_iast hx hb hK hP hD hS 1 0 rfl rfl (vp_in_nI (by omega) (by omega)) dX9_sign_46 (fun H locs hP hD hS => ?_)
      obtain ⟨g_3, eg_3⟩ : ∃ g : Nat → Int32, g = upd mt m_taped z_2 := ⟨_, rfl⟩
      have eU : upd mt (nI m_taped : Int32).toNatClampNeg z_2 = g_3 := by rw [eg_3, show (nI m_taped : Int32).toNatClampNeg = m_taped from nI_clamp (by omega)]
      rw [eU] at hP hD
      have hR_g_3 : RB 0 255 g_3 := by rw [eg_3]; exact hR_mt.upd rfl (by omega) (by omega)
      have hP : va_P D vwCl (wl_k_X9_sign cI cJ cK m0 a_row a_tape a_number a_read a_readBits a_stands a_parted a_bitsWere a_stood a_chosen a_bestChosen a_often a_sorted a_risen a_risenWays 0 (nI m_told) (nI m_taped) (nI m_at) (nI m_to) (nI m_many) (nI m_readMany) m_fewest (nI m_size) g_3) H := hP
      have hD : va_D A (wl_k_X9_sign cI cJ cK m0 a_row a_tape a_number a_read a_readBits a_stands a_parted a_bitsWere a_stood a_chosen a_bestChosen a_often a_sorted a_risen a_risenWays 0 (nI m_told) (nI m_taped) (nI m_at) (nI m_to) (nI m_many) (nI m_readMany) m_fewest (nI m_size) g_3) := hD
      refine lv_iinc (v := 1) (lv' := [(2, .int 1), (0, .ref m0), (1, .int v9)]) hx hb dX9_sign_47 hl (k := 0) rfl (by decide +kernel) (by decide) rfl (fun ls hl => ?_)
      refine lv_goto (tgt := 18) hx hb dX9_sign_50 (by decide) ?_
      refine lv_iload_n hx hb dX9_sign_18 rfl (lv_at hl 0 rfl) ?_
      refine lv_iconst (v := 4) hx hb dX9_sign_19 (by decide +kernel) ?_
      refine lv_icmp_ge (tgt := 53) hx hb dX9_sign_20 (by decide) (fun c20 => ?_) (fun c20 => ?_)
      ·
        exact absurd c20 (by decide +kernel)
      ·
        refine lv_aload_n hx hb dX9_sign_23 rfl (lv_at hl 1 rfl) ?_
        refine va_get (ci := 9) (v := .ref a_tape) (C := RX9) (T := TX9) (N := 24) hx hb hts hi9 hown hK hP 0 rfl rfl 3 (by decide) fl17 (fun _ h9 => h9) rfl dX9_sign_24 ?_
        refine lv_aload_n hx hb dX9_sign_27 rfl (lv_at hl 1 rfl) ?_
        refine va_get (ci := 9) (v := .int (nI m_taped)) (C := RX9) (T := TX9) (N := 24) hx hb hts hi9 hown hK hP 0 rfl rfl 4 (by decide) fl14 (fun _ h9 => h9) rfl dX9_sign_28 ?_
        refine lv_iload_n hx hb dX9_sign_31 rfl (lv_at hl 0 rfl) ?_
        refine lv_iadd hx hb dX9_sign_32 ?_
        refine my_eqi (y := nI (m_taped + 1)) (my_addN m_taped 1) ?_
        refine lv_iload_n hx hb dX9_sign_33 rfl (lv_at hl 2 rfl) ?_
        refine lv_bipush (v := 24) hx hb dX9_sign_34 (by decide +kernel) ?_
        refine lv_bipush (v := 8) hx hb dX9_sign_36 (by decide +kernel) ?_
        refine lv_iload_n hx hb dX9_sign_38 rfl (lv_at hl 0 rfl) ?_
        refine lv_imul hx hb dX9_sign_39 ?_
        refine my_eqi (y := 8) (by decide +kernel) ?_
        refine lv_isub hx hb dX9_sign_40 ?_
        refine my_eqi (y := 16) (by decide +kernel) ?_
        refine lv_ishr hx hb dX9_sign_41 ?_
        refine lv_topi (fun z_4 ez_4 => ?_)
        try have hbz_4 : 0 ≤ z_4.toInt ∧ z_4.toInt ≤ v9.toInt := by rw [ez_4]; exact my_shrR (s := 16) (by omega) (by omega)
        refine lv_sipush (v := 255) hx hb dX9_sign_42 (by decide +kernel) ?_
        refine lv_iand hx hb dX9_sign_45 ?_
        refine lv_topi (fun z_5 ez_5 => ?_)
        have hbz_5 : 0 ≤ z_5.toInt ∧ z_5.toInt ≤ 255 := by rw [ez_5]; exact my_andR (by decide +kernel) (by decide +kernel)
        refine va_iast hx hb hK hP hD hS 1 0 rfl rfl (vp_in_nI (by omega) (by omega)) dX9_sign_46 (fun H locs hP hD hS => ?_)
        obtain ⟨g_6, eg_6⟩ : ∃ g : Nat → Int32, g = upd g_3 (m_taped + 1) z_5 := ⟨_, rfl⟩
        have eU : upd g_3 (nI (m_taped + 1) : Int32).toNatClampNeg z_5 = g_6 := by rw [eg_6, show (nI (m_taped + 1) : Int32).toNatClampNeg = m_taped + 1 from nI_clamp (by omega)]
        rw [eU] at hP hD
        have hR_g_6 : RB 0 255 g_6 := by rw [eg_6]; exact hR_g_3.upd rfl (by omega) (by omega)
        have hP : va_P D vwCl (wl_k_X9_sign cI cJ cK m0 a_row a_tape a_number a_read a_readBits a_stands a_parted a_bitsWere a_stood a_chosen a_bestChosen a_often a_sorted a_risen a_risenWays 0 (nI m_told) (nI m_taped) (nI m_at) (nI m_to) (nI m_many) (nI m_readMany) m_fewest (nI m_size) g_6) H := hP
        have hD : va_D A (wl_k_X9_sign cI cJ cK m0 a_row a_tape a_number a_read a_readBits a_stands a_parted a_bitsWere a_stood a_chosen a_bestChosen a_often a_sorted a_risen a_risenWays 0 (nI m_told) (nI m_taped) (nI m_at) (nI m_to) (nI m_many) (nI m_readMany) m_fewest (nI m_size) g_6) := hD
        refine lv_iinc (v := 2) (lv' := [(2, .int 2), (0, .ref m0), (1, .int v9)]) hx hb dX9_sign_47 hl (k := 0) rfl (by decide +kernel) (by decide) rfl (fun ls hl => ?_)
        refine lv_goto (tgt := 18) hx hb dX9_sign_50 (by decide) ?_
        refine lv_iload_n hx hb dX9_sign_18 rfl (lv_at hl 0 rfl) ?_
        refine lv_iconst (v := 4) hx hb dX9_sign_19 (by decide +kernel) ?_
        refine lv_icmp_ge (tgt := 53) hx hb dX9_sign_20 (by decide) (fun c20 => ?_) (fun c20 => ?_)
        ·
          exact absurd c20 (by decide +kernel)
        ·
          refine lv_aload_n hx hb dX9_sign_23 rfl (lv_at hl 1 rfl) ?_
          refine va_get (ci := 9) (v := .ref a_tape) (C := RX9) (T := TX9) (N := 24) hx hb hts hi9 hown hK hP 0 rfl rfl 3 (by decide) fl17 (fun _ h9 => h9) rfl dX9_sign_24 ?_
          refine lv_aload_n hx hb dX9_sign_27 rfl (lv_at hl 1 rfl) ?_
          refine va_get (ci := 9) (v := .int (nI m_taped)) (C := RX9) (T := TX9) (N := 24) hx hb hts hi9 hown hK hP 0 rfl rfl 4 (by decide) fl14 (fun _ h9 => h9) rfl dX9_sign_28 ?_
          refine lv_iload_n hx hb dX9_sign_31 rfl (lv_at hl 0 rfl) ?_
          refine lv_iadd hx hb dX9_sign_32 ?_
          refine my_eqi (y := nI (m_taped + 2)) (my_addN m_taped 2) ?_
          refine lv_iload_n hx hb dX9_sign_33 rfl (lv_at hl 2 rfl) ?_
          refine lv_bipush (v := 24) hx hb dX9_sign_34 (by decide +kernel) ?_
          refine lv_bipush (v := 8) hx hb dX9_sign_36 (by decide +kernel) ?_
          refine lv_iload_n hx hb dX9_sign_38 rfl (lv_at hl 0 rfl) ?_
          refine lv_imul hx hb dX9_sign_39 ?_
          refine my_eqi (y := 16) (by decide +kernel) ?_
          refine lv_isub hx hb dX9_sign_40 ?_
          refine my_eqi (y := 8) (by decide +kernel) ?_
          refine lv_ishr hx hb dX9_sign_41 ?_
          refine lv_topi (fun z_7 ez_7 => ?_)
          try have hbz_7 : 0 ≤ z_7.toInt ∧ z_7.toInt ≤ v9.toInt := by rw [ez_7]; exact my_shrR (s := 8) (by omega) (by omega)
          refine lv_sipush (v := 255) hx hb dX9_sign_42 (by decide +kernel) ?_
          refine lv_iand hx hb dX9_sign_45 ?_
          refine lv_topi (fun z_8 ez_8 => ?_)
          have hbz_8 : 0 ≤ z_8.toInt ∧ z_8.toInt ≤ 255 := by rw [ez_8]; exact my_andR (by decide +kernel) (by decide +kernel)
          refine va_iast hx hb hK hP hD hS 1 0 rfl rfl (vp_in_nI (by omega) (by omega)) dX9_sign_46 (fun H locs hP hD hS => ?_)
          obtain ⟨g_9, eg_9⟩ : ∃ g : Nat → Int32, g = upd g_6 (m_taped + 2) z_8 := ⟨_, rfl⟩
          have eU : upd g_6 (nI (m_taped + 2) : Int32).toNatClampNeg z_8 = g_9 := by rw [eg_9, show (nI (m_taped + 2) : Int32).toNatClampNeg = m_taped + 2 from nI_clamp (by omega)]
          rw [eU] at hP hD
          have hR_g_9 : RB 0 255 g_9 := by rw [eg_9]; exact hR_g_6.upd rfl (by omega) (by omega)
          have hP : va_P D vwCl (wl_k_X9_sign cI cJ cK m0 a_row a_tape a_number a_read a_readBits a_stands a_parted a_bitsWere a_stood a_chosen a_bestChosen a_often a_sorted a_risen a_risenWays 0 (nI m_told) (nI m_taped) (nI m_at) (nI m_to) (nI m_many) (nI m_readMany) m_fewest (nI m_size) g_9) H := hP
          have hD : va_D A (wl_k_X9_sign cI cJ cK m0 a_row a_tape a_number a_read a_readBits a_stands a_parted a_bitsWere a_stood a_chosen a_bestChosen a_often a_sorted a_risen a_risenWays 0 (nI m_told) (nI m_taped) (nI m_at) (nI m_to) (nI m_many) (nI m_readMany) m_fewest (nI m_size) g_9) := hD
          refine lv_iinc (v := 3) (lv' := [(2, .int 3), (0, .ref m0), (1, .int v9)]) hx hb dX9_sign_47 hl (k := 0) rfl (by decide +kernel) (by decide) rfl (fun ls hl => ?_)
          refine lv_goto (tgt := 18) hx hb dX9_sign_50 (by decide) ?_
          refine lv_iload_n hx hb dX9_sign_18 rfl (lv_at hl 0 rfl) ?_
          refine lv_iconst (v := 4) hx hb dX9_sign_19 (by decide +kernel) ?_
          refine lv_icmp_ge (tgt := 53) hx hb dX9_sign_20 (by decide) (fun c20 => ?_) (fun c20 => ?_)
          ·
            exact absurd c20 (by decide +kernel)
          ·
            refine lv_aload_n hx hb dX9_sign_23 rfl (lv_at hl 1 rfl) ?_
            refine va_get (ci := 9) (v := .ref a_tape) (C := RX9) (T := TX9) (N := 24) hx hb hts hi9 hown hK hP 0 rfl rfl 3 (by decide) fl17 (fun _ h9 => h9) rfl dX9_sign_24 ?_
            refine lv_aload_n hx hb dX9_sign_27 rfl (lv_at hl 1 rfl) ?_
            refine va_get (ci := 9) (v := .int (nI m_taped)) (C := RX9) (T := TX9) (N := 24) hx hb hts hi9 hown hK hP 0 rfl rfl 4 (by decide) fl14 (fun _ h9 => h9) rfl dX9_sign_28 ?_
            refine lv_iload_n hx hb dX9_sign_31 rfl (lv_at hl 0 rfl) ?_
            refine lv_iadd hx hb dX9_sign_32 ?_
            refine my_eqi (y := nI (m_taped + 3)) (my_addN m_taped 3) ?_
            refine lv_iload_n hx hb dX9_sign_33 rfl (lv_at hl 2 rfl) ?_
            refine lv_bipush (v := 24) hx hb dX9_sign_34 (by decide +kernel) ?_
            refine lv_bipush (v := 8) hx hb dX9_sign_36 (by decide +kernel) ?_
            refine lv_iload_n hx hb dX9_sign_38 rfl (lv_at hl 0 rfl) ?_
            refine lv_imul hx hb dX9_sign_39 ?_
            refine my_eqi (y := 24) (by decide +kernel) ?_
            refine lv_isub hx hb dX9_sign_40 ?_
            refine my_eqi (y := 0) (by decide +kernel) ?_
            refine lv_ishr hx hb dX9_sign_41 ?_
            refine lv_topi (fun z_10 ez_10 => ?_)
            try have hbz_10 : 0 ≤ z_10.toInt ∧ z_10.toInt ≤ v9.toInt := by rw [ez_10]; exact my_shrR (s := 0) (by omega) (by omega)
            refine lv_sipush (v := 255) hx hb dX9_sign_42 (by decide +kernel) ?_
            refine lv_iand hx hb dX9_sign_45 ?_
            refine lv_topi (fun z_11 ez_11 => ?_)
            have hbz_11 : 0 ≤ z_11.toInt ∧ z_11.toInt ≤ 255 := by rw [ez_11]; exact my_andR (by decide +kernel) (by decide +kernel)
            refine va_iast hx hb hK hP hD hS 1 0 rfl rfl (vp_in_nI (by omega) (by omega)) dX9_sign_46 (fun H locs hP hD hS => ?_)
            obtain ⟨g_12, eg_12⟩ : ∃ g : Nat → Int32, g = upd g_9 (m_taped + 3) z_11 := ⟨_, rfl⟩
            have eU : upd g_9 (nI (m_taped + 3) : Int32).toNatClampNeg z_11 = g_12 := by rw [eg_12, show (nI (m_taped + 3) : Int32).toNatClampNeg = m_taped + 3 from nI_clamp (by omega)]
            rw [eU] at hP hD
            have hR_g_12 : RB 0 255 g_12 := by rw [eg_12]; exact hR_g_9.upd rfl (by omega) (by omega)
            have hP : va_P D vwCl (wl_k_X9_sign cI cJ cK m0 a_row a_tape a_number a_read a_readBits a_stands a_parted a_bitsWere a_stood a_chosen a_bestChosen a_often a_sorted a_risen a_risenWays 0 (nI m_told) (nI m_taped) (nI m_at) (nI m_to) (nI m_many) (nI m_readMany) m_fewest (nI m_size) g_12) H := hP
            have hD : va_D A (wl_k_X9_sign cI cJ cK m0 a_row a_tape a_number a_read a_readBits a_stands a_parted a_bitsWere a_stood a_chosen a_bestChosen a_often a_sorted a_risen a_risenWays 0 (nI m_told) (nI m_taped) (nI m_at) (nI m_to) (nI m_many) (nI m_readMany) m_fewest (nI m_size) g_12) := hD
            refine lv_iinc (v := 4) (lv' := [(2, .int 4), (0, .ref m0), (1, .int v9)]) hx hb dX9_sign_47 hl (k := 0) rfl (by decide +kernel) (by decide) rfl (fun ls hl => ?_)
            refine lv_goto (tgt := 18) hx hb dX9_sign_50 (by decide) ?_
            refine lv_iload_n hx hb dX9_sign_18 rfl (lv_at hl 0 rfl) ?_
            refine lv_iconst (v := 4) hx hb dX9_sign_19 (by decide +kernel) ?_
            refine lv_icmp_ge (tgt := 53) hx hb dX9_sign_20 (by decide) (fun c20 => ?_) (fun c20 => ?_)
            ·
              refine lv_aload_n hx hb dX9_sign_53 rfl (lv_at hl 1 rfl) ?_
              refine lv_dup hx hb dX9_sign_54 rfl ?_
              refine va_get (ci := 9) (v := .int (nI m_taped)) (C := RX9) (T := TX9) (N := 24) hx hb hts hi9 hown hK hP 0 rfl rfl 4 (by decide) fl14 (fun _ h9 => h9) rfl dX9_sign_55 ?_
              refine lv_iconst (v := 4) hx hb dX9_sign_58 (by decide +kernel) ?_
              refine lv_iadd hx hb dX9_sign_59 ?_
              refine my_eqi (y := nI (m_taped + 4)) (my_addN m_taped 4) ?_
              refine va_put (ci := 9) (v := .int (nI (m_taped + 4))) (ty := (.int)) (C := RX9) (T := TX9) (N := 24) hx hb hts hi9 tyX9 tyX9_ok nmX9 hown hK hP hD hS 0 rfl rfl 4 (by decide) fl14 (fun _ h9 => h9) rfl (by decide +kernel) rfl rfl (Nat.le_of_ble_eq_true rfl) dX9_sign_60 (fun H locs hP hD hS => ?_)
              have hP : va_P D vwCl (wl_k_X9_sign cI cJ cK m0 a_row a_tape a_number a_read a_readBits a_stands a_parted a_bitsWere a_stood a_chosen a_bestChosen a_often a_sorted a_risen a_risenWays 0 (nI m_told) (nI (m_taped + 4)) (nI m_at) (nI m_to) (nI m_many) (nI m_readMany) m_fewest (nI m_size) g_12) H := hP
              have hD : va_D A (wl_k_X9_sign cI cJ cK m0 a_row a_tape a_number a_read a_readBits a_stands a_parted a_bitsWere a_stood a_chosen a_bestChosen a_often a_sorted a_risen a_risenWays 0 (nI m_told) (nI (m_taped + 4)) (nI m_at) (nI m_to) (nI m_many) (nI m_readMany) m_fewest (nI m_size) g_12) := hD
              refine lv_aload_n hx hb dX9_sign_63 rfl (lv_at hl 1 rfl) ?_
              refine va_get (ci := 9) (v := .int (nI (m_taped + 4))) (C := RX9) (T := TX9) (N := 24) hx hb hts hi9 hown hK hP 0 rfl rfl 4 (by decide) fl14 (fun _ h9 => h9) rfl dX9_sign_64 ?_
              exact my_retI hx hb hr hlocks hK hS (wl_k_X9_sign cI cJ cK m0 a_row a_tape a_number a_read a_readBits a_stands a_parted a_bitsWere a_stood a_chosen a_bestChosen a_often a_sorted a_risen a_risenWays 0 (nI m_told) (nI (m_taped + 4)) (nI m_at) (nI m_to) (nI m_many) (nI m_readMany) m_fewest (nI m_size) g_12) hP hD (Or.inl ⟨0, (m_taped + 4), g_12, rfl, rfl, (by first | assumption | omega | trivial | decide +kernel), hR_g_12, (by first | assumption | omega | trivial | decide +kernel), (by subst_vars; rfl)⟩) dX9_sign_67
            ·
              exact absurd c20 (by decide +kernel)
  ·
    have d11 : ((m_taped : Nat) : Int) > (96 : Int) := my_nle c11 (nI_toInt (by omega)) (by decide +kernel)
    refine lv_iconst (v := (-1)) hx hb dX9_sign_14 (by decide +kernel) ?_
    exact my_retI hx hb hr hlocks hK hS (wl_k_X9_sign cI cJ cK m0 a_row a_tape a_number a_read a_readBits a_stands a_parted a_bitsWere a_stood a_chosen a_bestChosen a_often a_sorted a_risen a_risenWays 0 (nI m_told) (nI m_taped) (nI m_at) (nI m_to) (nI m_many) (nI m_readMany) m_fewest (nI m_size) mt) hP hD (Or.inr (⟨0, rfl, rfl, (by first | assumption | omega | trivial | decide +kernel)⟩)) dX9_sign_15
abbrev wl_k_X9_end (cI cJ cK : ClassId) (m0 : Nat) (a_row : Nat) (a_tape : Nat) (a_number : Nat) (a_read : Nat) (a_readBits : Nat) (a_stands : Nat) (a_parted : Nat) (a_bitsWere : Nat) (a_stood : Nat) (a_chosen : Nat) (a_bestChosen : Nat) (a_often : Nat) (a_sorted : Nat) (a_risen : Nat) (a_risenWays : Nat) (v0_ : Int32) (v1_ : Int32) (v2_ : Int32) (v3_ : Int32) (v4_ : Int32) (v5_ : Int32) (v6_ : Int32) (v7_ : Int32) (v8_ : Int32) : va_W := [(m0, .inr (9, [.int v0_, .int v1_, .ref a_row, .ref a_tape, .int v2_, .int v3_, .int v4_, .int v5_, .ref a_number, .ref a_read, .int v6_, .ref a_readBits, .ref a_stands, .ref a_parted, .ref a_bitsWere, .ref a_stood, .ref a_chosen, .ref a_bestChosen, .int v7_, .ref a_often, .ref a_sorted, .int v8_, .ref a_risen, .ref a_risenWays]))]
set_option maxHeartbeats 4000000 in
set_option maxRecDepth 100000 in
theorem k_X9_end (l : Launch) (D : va_G) (cI cJ cK : ClassId) (m0 : Nat) (a_row : Nat) (a_tape : Nat) (a_number : Nat) (a_read : Nat) (a_readBits : Nat) (a_stands : Nat) (a_parted : Nat) (a_bitsWere : Nat) (a_stood : Nat) (a_chosen : Nat) (a_bestChosen : Nat) (a_often : Nat) (a_sorted : Nat) (a_risen : Nat) (a_risenWays : Nat) (m_thrown : Int32) (m_told : Nat) (m_taped : Nat) (m_at : Nat) (m_to : Nat) (m_many : Nat) (m_readMany : Nat) (m_fewest : Int32) (m_size : Nat) (u8 : Int32) (hz_m_told : m_told ≤ 64) (hz_m_taped : m_taped ≤ 100) (hz_m_at : m_at ≤ 100) (hz_m_to : m_to ≤ 100) (hz_m_many : m_many ≤ 64) (hz_m_readMany : m_readMany ≤ 64) (hz_m_size : m_size ≤ 64) : ctI l yX9_end wsX9_end ({ frames := 1, cells := 0, slots := 0, locals := 60 } : Room) D (tyIJ cI cJ cK) [.ref m0, .int u8] (wl_k_X9_end cI cJ cK m0 a_row a_tape a_number a_read a_readBits a_stands a_parted a_bitsWere a_stood a_chosen a_bestChosen a_often a_sorted a_risen a_risenWays m_thrown (nI m_told) (nI m_taped) (nI m_at) (nI m_to) (nI m_many) (nI m_readMany) m_fewest (nI m_size)) (fun (r : Int32) (u : va_W) => (∃ (m_thrown' : Int32) (m_taped' : Nat), u = (wl_k_X9_end cI cJ cK m0 a_row a_tape a_number a_read a_readBits a_stands a_parted a_bitsWere a_stood a_chosen a_bestChosen a_often a_sorted a_risen a_risenWays m_thrown' (nI m_told) (nI m_taped') (nI m_at) (nI m_to) (nI m_many) (nI m_readMany) m_fewest (nI m_size)) ∧ r = 1 ∧ m_taped' ≤ 100 ∧ (m_taped' : Int) = u8.toInt ∧ u8.toInt ≤ m_taped) ∨ (∃ (m_thrown' : Int32), u = (wl_k_X9_end cI cJ cK m0 a_row a_tape a_number a_read a_readBits a_stands a_parted a_bitsWere a_stood a_chosen a_bestChosen a_often a_sorted a_risen a_risenWays m_thrown' (nI m_told) (nI m_taped) (nI m_at) (nI m_to) (nI m_many) (nI m_readMany) m_fewest (nI m_size)) ∧ r = 0 ∧ (u8.toInt < 0 ∨ m_taped < u8.toInt))) := by
  refine ctI.of (cc := cX9_end) (maxL := 2) (ret := (some .boolean)) (by decide) rfl (Nat.le_of_ble_eq_true rfl) ?_
  intro p e s m below meth c ls A hx hb hr hts hown hml hlocks hname hA hK hN hP hD hS hl
  have hl : lv_has ls 2 [(0, .ref m0), (1, .int u8)] := hl
  have hown : s.vm.findClass RX9 = some m.cls := hown
  have hi9 : ∀ w ∈ u_ws RX9 TX9 24, w ∈ wsX9_end := by decide +kernel
  have fl1 := hts (.fieldLink RX9 1 "PlaneColumnModel" "thrown" "I") (by decide +kernel)
  have fl14 := hts (.fieldLink RX9 14 "PlaneColumnModel" "taped" "I") (by decide +kernel)
  refine lv_aload_n hx hb dX9_end_0 rfl (lv_at hl 0 rfl) ?_
  refine lv_iconst (v := 0) hx hb dX9_end_1 (by decide +kernel) ?_
  refine va_put (ci := 9) (v := .int 0) (ty := (.int)) (C := RX9) (T := TX9) (N := 24) hx hb hts hi9 tyX9 tyX9_ok nmX9 hown hK hP hD hS 0 rfl rfl 0 (by decide) fl1 (fun _ h9 => h9) rfl (by decide +kernel) rfl rfl (Nat.le_of_ble_eq_true rfl) dX9_end_2 (fun H locs hP hD hS => ?_)
  have hP : va_P D vwCl (wl_k_X9_end cI cJ cK m0 a_row a_tape a_number a_read a_readBits a_stands a_parted a_bitsWere a_stood a_chosen a_bestChosen a_often a_sorted a_risen a_risenWays 0 (nI m_told) (nI m_taped) (nI m_at) (nI m_to) (nI m_many) (nI m_readMany) m_fewest (nI m_size)) H := hP
  have hD : va_D A (wl_k_X9_end cI cJ cK m0 a_row a_tape a_number a_read a_readBits a_stands a_parted a_bitsWere a_stood a_chosen a_bestChosen a_often a_sorted a_risen a_risenWays 0 (nI m_told) (nI m_taped) (nI m_at) (nI m_to) (nI m_many) (nI m_readMany) m_fewest (nI m_size)) := hD
  refine lv_iload_n hx hb dX9_end_5 rfl (lv_at hl 1 rfl) ?_
  refine lv_i2l (v := u8.toInt64) hx hb dX9_end_6 rfl ?_
  refine lv_lconst (v := 0) hx hb dX9_end_7 (by decide +kernel) ?_
  refine lv_aload_n hx hb dX9_end_8 rfl (lv_at hl 0 rfl) ?_
  refine va_get (ci := 9) (v := .int (nI m_taped)) (C := RX9) (T := TX9) (N := 24) hx hb hts hi9 hown hK hP 0 rfl rfl 4 (by decide) fl14 (fun _ h9 => h9) rfl dX9_end_9 ?_
  refine lv_i2l (v := lN m_taped) hx hb dX9_end_12 (nI_l (by omega)) ?_
  refine my_gpI (my_pS (As := [.long u8.toInt64, .long 0, .long (lN m_taped)]) (rest := []) ⟨hx, hb, hml, hown, hts⟩ (va_cwS 3 hts gX9_end_X9_in rfl rfl rfl (by decide +kernel) ⟨Nat.le_of_ble_eq_true rfl, Nat.le_of_ble_eq_true rfl⟩) hN hK hP [] rfl rfl hl.1 rfl (Nat.le_of_ble_eq_true rfl) dX9_end_13 ⟨Nat.le_of_ble_eq_true rfl, Nat.le_of_ble_eq_true rfl⟩  (k_X9_in l D cI cJ cK u8.toInt64 (0 : Int64) (lN m_taped) u8.toInt (Int32.toInt_toInt64 _) (0 : Int) (by decide +kernel) ((m_taped : Nat) : Int) (lN_toInt (by omega)))) (fun r hp => ?_)
  rcases hp with ⟨rfl, ha_1, hb_2⟩ | ⟨rfl, ho_3⟩
  ·
    refine lv_if_ne (tgt := 21) hx hb dX9_end_16 (by decide) (fun c16 => ?_) (fun c16 => ?_)
    ·
      refine lv_aload_n hx hb dX9_end_21 rfl (lv_at hl 0 rfl) ?_
      refine lv_iload_n hx hb dX9_end_22 rfl (lv_at hl 1 rfl) ?_
      obtain ⟨w_4, ew_4, hw_4⟩ : ∃ w : Nat, u8 = nI w ∧ (w : Int) = (u8 : Int32).toInt := my_natE (by omega)
      refine my_eqi (y := nI w_4) ew_4 ?_
      refine va_put (ci := 9) (v := .int (nI w_4)) (ty := (.int)) (C := RX9) (T := TX9) (N := 24) hx hb hts hi9 tyX9 tyX9_ok nmX9 hown hK hP hD hS 0 rfl rfl 4 (by decide) fl14 (fun _ h9 => h9) rfl (by decide +kernel) rfl rfl (Nat.le_of_ble_eq_true rfl) dX9_end_23 (fun H locs hP hD hS => ?_)
      have hP : va_P D vwCl (wl_k_X9_end cI cJ cK m0 a_row a_tape a_number a_read a_readBits a_stands a_parted a_bitsWere a_stood a_chosen a_bestChosen a_often a_sorted a_risen a_risenWays 0 (nI m_told) (nI w_4) (nI m_at) (nI m_to) (nI m_many) (nI m_readMany) m_fewest (nI m_size)) H := hP
      have hD : va_D A (wl_k_X9_end cI cJ cK m0 a_row a_tape a_number a_read a_readBits a_stands a_parted a_bitsWere a_stood a_chosen a_bestChosen a_often a_sorted a_risen a_risenWays 0 (nI m_told) (nI w_4) (nI m_at) (nI m_to) (nI m_many) (nI m_readMany) m_fewest (nI m_size)) := hD
      refine lv_iconst (v := 1) hx hb dX9_end_26 (by decide +kernel) ?_
      exact my_retZ hx hb hr hlocks (by decide +kernel) hK hS (wl_k_X9_end cI cJ cK m0 a_row a_tape a_number a_read a_readBits a_stands a_parted a_bitsWere a_stood a_chosen a_bestChosen a_often a_sorted a_risen a_risenWays 0 (nI m_told) (nI w_4) (nI m_at) (nI m_to) (nI m_many) (nI m_readMany) m_fewest (nI m_size)) hP hD (Or.inl ⟨0, w_4, rfl, rfl, (by first | assumption | omega | trivial | decide +kernel), (by first | assumption | omega | trivial | decide +kernel), (by first | assumption | omega | trivial | decide +kernel)⟩) dX9_end_27
    ·
      exact absurd c16 (by decide +kernel)
  ·
    refine lv_if_ne (tgt := 21) hx hb dX9_end_16 (by decide) (fun c16 => ?_) (fun c16 => ?_)
    ·
      exact absurd c16 (by decide +kernel)
    ·
      refine lv_iconst (v := 0) hx hb dX9_end_19 (by decide +kernel) ?_
      exact my_retZ hx hb hr hlocks (by decide +kernel) hK hS (wl_k_X9_end cI cJ cK m0 a_row a_tape a_number a_read a_readBits a_stands a_parted a_bitsWere a_stood a_chosen a_bestChosen a_often a_sorted a_risen a_risenWays 0 (nI m_told) (nI m_taped) (nI m_at) (nI m_to) (nI m_many) (nI m_readMany) m_fewest (nI m_size)) hP hD (Or.inr (⟨0, rfl, rfl, (by first | assumption | omega | trivial | decide +kernel)⟩)) dX9_end_20
abbrev wl_k_X9_reads (cI cJ cK : ClassId) (m0 : Nat) (a_row : Nat) (a_tape : Nat) (a_number : Nat) (a_read : Nat) (a_readBits : Nat) (a_stands : Nat) (a_parted : Nat) (a_bitsWere : Nat) (a_stood : Nat) (a_chosen : Nat) (a_bestChosen : Nat) (a_often : Nat) (a_sorted : Nat) (a_risen : Nat) (a_risenWays : Nat) (v0_ : Int32) (v1_ : Int32) (v2_ : Int32) (v3_ : Int32) (v4_ : Int32) (v5_ : Int32) (v6_ : Int32) (v7_ : Int32) (v8_ : Int32) : va_W := [(m0, .inr (9, [.int v0_, .int v1_, .ref a_row, .ref a_tape, .int v2_, .int v3_, .int v4_, .int v5_, .ref a_number, .ref a_read, .int v6_, .ref a_readBits, .ref a_stands, .ref a_parted, .ref a_bitsWere, .ref a_stood, .ref a_chosen, .ref a_bestChosen, .int v7_, .ref a_often, .ref a_sorted, .int v8_, .ref a_risen, .ref a_risenWays]))]
set_option maxHeartbeats 4000000 in
set_option maxRecDepth 100000 in
theorem k_X9_reads (l : Launch) (D : va_G) (cI cJ cK : ClassId) (m0 : Nat) (a_row : Nat) (a_tape : Nat) (a_number : Nat) (a_read : Nat) (a_readBits : Nat) (a_stands : Nat) (a_parted : Nat) (a_bitsWere : Nat) (a_stood : Nat) (a_chosen : Nat) (a_bestChosen : Nat) (a_often : Nat) (a_sorted : Nat) (a_risen : Nat) (a_risenWays : Nat) (m_thrown : Int32) (m_told : Nat) (m_taped : Nat) (m_at : Nat) (m_to : Nat) (m_many : Nat) (m_readMany : Nat) (m_fewest : Int32) (m_size : Nat) (hz_m_told : m_told ≤ 64) (hz_m_taped : m_taped ≤ 100) (hz_m_at : m_at ≤ 100) (hz_m_to : m_to ≤ 100) (hz_m_many : m_many ≤ 64) (hz_m_readMany : m_readMany ≤ 64) (hz_m_size : m_size ≤ 64) : ctV l yX9_reads wsX9_reads ({ frames := 0, cells := 0, slots := 0, locals := 0 } : Room) D (tyIJ cI cJ cK) [.ref m0] (wl_k_X9_reads cI cJ cK m0 a_row a_tape a_number a_read a_readBits a_stands a_parted a_bitsWere a_stood a_chosen a_bestChosen a_often a_sorted a_risen a_risenWays m_thrown (nI m_told) (nI m_taped) (nI m_at) (nI m_to) (nI m_many) (nI m_readMany) m_fewest (nI m_size)) (fun (u : va_W) => u = (wl_k_X9_reads cI cJ cK m0 a_row a_tape a_number a_read a_readBits a_stands a_parted a_bitsWere a_stood a_chosen a_bestChosen a_often a_sorted a_risen a_risenWays m_thrown (nI m_told) 0 0 (nI m_taped) (nI m_many) (nI m_readMany) m_fewest (nI m_size))) := by
  refine ctV.of (cc := cX9_reads) (maxL := 1) (ret := none) (by decide) rfl (Nat.le_of_ble_eq_true rfl) ?_
  intro p e s m below meth c ls A hx hb hr hts hown hml hlocks hname hA hK hN hP hD hS hl
  have hl : lv_has ls 1 [(0, .ref m0)] := hl
  have hown : s.vm.findClass RX9 = some m.cls := hown
  have hi9 : ∀ w ∈ u_ws RX9 TX9 24, w ∈ wsX9_reads := by decide +kernel
  have fl14 := hts (.fieldLink RX9 14 "PlaneColumnModel" "taped" "I") (by decide +kernel)
  have fl25 := hts (.fieldLink RX9 25 "PlaneColumnModel" "to" "I") (by decide +kernel)
  have fl28 := hts (.fieldLink RX9 28 "PlaneColumnModel" "at" "I") (by decide +kernel)
  refine lv_aload_n hx hb dX9_reads_0 rfl (lv_at hl 0 rfl) ?_
  refine lv_aload_n hx hb dX9_reads_1 rfl (lv_at hl 0 rfl) ?_
  refine va_get (ci := 9) (v := .int (nI m_taped)) (C := RX9) (T := TX9) (N := 24) hx hb hts hi9 hown hK hP 0 rfl rfl 4 (by decide) fl14 (fun _ h9 => h9) rfl dX9_reads_2 ?_
  refine va_put (ci := 9) (v := .int (nI m_taped)) (ty := (.int)) (C := RX9) (T := TX9) (N := 24) hx hb hts hi9 tyX9 tyX9_ok nmX9 hown hK hP hD hS 0 rfl rfl 6 (by decide) fl25 (fun _ h9 => h9) rfl (by decide +kernel) rfl rfl (Nat.le_of_ble_eq_true rfl) dX9_reads_5 (fun H locs hP hD hS => ?_)
  have hP : va_P D vwCl (wl_k_X9_reads cI cJ cK m0 a_row a_tape a_number a_read a_readBits a_stands a_parted a_bitsWere a_stood a_chosen a_bestChosen a_often a_sorted a_risen a_risenWays m_thrown (nI m_told) (nI m_taped) (nI m_at) (nI m_taped) (nI m_many) (nI m_readMany) m_fewest (nI m_size)) H := hP
  have hD : va_D A (wl_k_X9_reads cI cJ cK m0 a_row a_tape a_number a_read a_readBits a_stands a_parted a_bitsWere a_stood a_chosen a_bestChosen a_often a_sorted a_risen a_risenWays m_thrown (nI m_told) (nI m_taped) (nI m_at) (nI m_taped) (nI m_many) (nI m_readMany) m_fewest (nI m_size)) := hD
  refine lv_aload_n hx hb dX9_reads_8 rfl (lv_at hl 0 rfl) ?_
  refine lv_iconst (v := 0) hx hb dX9_reads_9 (by decide +kernel) ?_
  refine va_put (ci := 9) (v := .int 0) (ty := (.int)) (C := RX9) (T := TX9) (N := 24) hx hb hts hi9 tyX9 tyX9_ok nmX9 hown hK hP hD hS 0 rfl rfl 4 (by decide) fl14 (fun _ h9 => h9) rfl (by decide +kernel) rfl rfl (Nat.le_of_ble_eq_true rfl) dX9_reads_10 (fun H locs hP hD hS => ?_)
  have hP : va_P D vwCl (wl_k_X9_reads cI cJ cK m0 a_row a_tape a_number a_read a_readBits a_stands a_parted a_bitsWere a_stood a_chosen a_bestChosen a_often a_sorted a_risen a_risenWays m_thrown (nI m_told) 0 (nI m_at) (nI m_taped) (nI m_many) (nI m_readMany) m_fewest (nI m_size)) H := hP
  have hD : va_D A (wl_k_X9_reads cI cJ cK m0 a_row a_tape a_number a_read a_readBits a_stands a_parted a_bitsWere a_stood a_chosen a_bestChosen a_often a_sorted a_risen a_risenWays m_thrown (nI m_told) 0 (nI m_at) (nI m_taped) (nI m_many) (nI m_readMany) m_fewest (nI m_size)) := hD
  refine lv_aload_n hx hb dX9_reads_13 rfl (lv_at hl 0 rfl) ?_
  refine lv_iconst (v := 0) hx hb dX9_reads_14 (by decide +kernel) ?_
  refine va_put (ci := 9) (v := .int 0) (ty := (.int)) (C := RX9) (T := TX9) (N := 24) hx hb hts hi9 tyX9 tyX9_ok nmX9 hown hK hP hD hS 0 rfl rfl 5 (by decide) fl28 (fun _ h9 => h9) rfl (by decide +kernel) rfl rfl (Nat.le_of_ble_eq_true rfl) dX9_reads_15 (fun H locs hP hD hS => ?_)
  have hP : va_P D vwCl (wl_k_X9_reads cI cJ cK m0 a_row a_tape a_number a_read a_readBits a_stands a_parted a_bitsWere a_stood a_chosen a_bestChosen a_often a_sorted a_risen a_risenWays m_thrown (nI m_told) 0 0 (nI m_taped) (nI m_many) (nI m_readMany) m_fewest (nI m_size)) H := hP
  have hD : va_D A (wl_k_X9_reads cI cJ cK m0 a_row a_tape a_number a_read a_readBits a_stands a_parted a_bitsWere a_stood a_chosen a_bestChosen a_often a_sorted a_risen a_risenWays m_thrown (nI m_told) 0 0 (nI m_taped) (nI m_many) (nI m_readMany) m_fewest (nI m_size)) := hD
  exact my_retV hx hb hr hlocks hK hS (wl_k_X9_reads cI cJ cK m0 a_row a_tape a_number a_read a_readBits a_stands a_parted a_bitsWere a_stood a_chosen a_bestChosen a_often a_sorted a_risen a_risenWays m_thrown (nI m_told) 0 0 (nI m_taped) (nI m_many) (nI m_readMany) m_fewest (nI m_size)) hP hD (rfl) dX9_reads_18
abbrev wl_k_X9_takes (cI cJ cK : ClassId) (m0 : Nat) (a_row : Nat) (a_tape : Nat) (a_number : Nat) (a_read : Nat) (a_readBits : Nat) (a_stands : Nat) (a_parted : Nat) (a_bitsWere : Nat) (a_stood : Nat) (a_chosen : Nat) (a_bestChosen : Nat) (a_often : Nat) (a_sorted : Nat) (a_risen : Nat) (a_risenWays : Nat) (v0_ : Int32) (v1_ : Int32) (v2_ : Int32) (v3_ : Int32) (v4_ : Int32) (v5_ : Int32) (v6_ : Int32) (v7_ : Int32) (v8_ : Int32) (v9_ : Nat → Int32) : va_W := [(m0, .inr (9, [.int v0_, .int v1_, .ref a_row, .ref a_tape, .int v2_, .int v3_, .int v4_, .int v5_, .ref a_number, .ref a_read, .int v6_, .ref a_readBits, .ref a_stands, .ref a_parted, .ref a_bitsWere, .ref a_stood, .ref a_chosen, .ref a_bestChosen, .int v7_, .ref a_often, .ref a_sorted, .int v8_, .ref a_risen, .ref a_risenWays])), (a_tape, .inl (cI, 100, .inl v9_))]
set_option maxHeartbeats 4000000 in
set_option maxRecDepth 100000 in
theorem k_X9_takes (l : Launch) (D : va_G) (cI cJ cK : ClassId) (m0 : Nat) (a_row : Nat) (a_tape : Nat) (a_number : Nat) (a_read : Nat) (a_readBits : Nat) (a_stands : Nat) (a_parted : Nat) (a_bitsWere : Nat) (a_stood : Nat) (a_chosen : Nat) (a_bestChosen : Nat) (a_often : Nat) (a_sorted : Nat) (a_risen : Nat) (a_risenWays : Nat) (m_thrown : Int32) (m_told : Nat) (m_taped : Nat) (m_at : Nat) (m_to : Nat) (m_many : Nat) (m_readMany : Nat) (m_fewest : Int32) (m_size : Nat) (mt : Nat → Int32) (cg : Int32) (A_cg : Int) (hA_cg : cg.toInt = A_cg) (hz_m_told : m_told ≤ 64) (hz_m_taped : m_taped ≤ 100) (hz_m_at : m_at ≤ 100) (hz_m_to : m_to ≤ 100) (hz_m_many : m_many ≤ 64) (hz_m_readMany : m_readMany ≤ 64) (hz_m_size : m_size ≤ 64) (hR_mt : RB 0 255 mt) : ctI l yX9_takes wsX9_takes ({ frames := 1, cells := 0, slots := 0, locals := 60 } : Room) D (tyIJ cI cJ cK) [.ref m0, .int cg] (wl_k_X9_takes cI cJ cK m0 a_row a_tape a_number a_read a_readBits a_stands a_parted a_bitsWere a_stood a_chosen a_bestChosen a_often a_sorted a_risen a_risenWays m_thrown (nI m_told) (nI m_taped) (nI m_at) (nI m_to) (nI m_many) (nI m_readMany) m_fewest (nI m_size) mt) (fun (r : Int32) (u : va_W) => (u = (wl_k_X9_takes cI cJ cK m0 a_row a_tape a_number a_read a_readBits a_stands a_parted a_bitsWere a_stood a_chosen a_bestChosen a_often a_sorted a_risen a_risenWays m_thrown (nI m_told) (nI m_taped) (nI (m_at + 1)) (nI m_to) (nI m_many) (nI m_readMany) m_fewest (nI m_size) mt) ∧ r = 1 ∧ m_at < m_to ∧ (mt m_at).toInt = A_cg) ∨ (u = (wl_k_X9_takes cI cJ cK m0 a_row a_tape a_number a_read a_readBits a_stands a_parted a_bitsWere a_stood a_chosen a_bestChosen a_often a_sorted a_risen a_risenWays m_thrown (nI m_told) (nI m_taped) (nI m_at) (nI m_to) (nI m_many) (nI m_readMany) m_fewest (nI m_size) mt) ∧ r = 0 ∧ (m_to ≤ m_at ∨ (mt m_at).toInt ≠ A_cg))) := by
  refine ctI.of (cc := cX9_takes) (maxL := 3) (ret := (some .boolean)) (by decide) rfl (Nat.le_of_ble_eq_true rfl) ?_
  intro p e s m below meth c ls A hx hb hr hts hown hml hlocks hname hA hK hN hP hD hS hl
  have hl : lv_has ls 3 [(0, .ref m0), (1, .int cg)] := hl
  have hown : s.vm.findClass RX9 = some m.cls := hown
  have hi9 : ∀ w ∈ u_ws RX9 TX9 24, w ∈ wsX9_takes := by decide +kernel
  have fl17 := hts (.fieldLink RX9 17 "PlaneColumnModel" "tape" "[I") (by decide +kernel)
  have fl25 := hts (.fieldLink RX9 25 "PlaneColumnModel" "to" "I") (by decide +kernel)
  have fl28 := hts (.fieldLink RX9 28 "PlaneColumnModel" "at" "I") (by decide +kernel)
  refine lv_aload_n hx hb dX9_takes_0 rfl (lv_at hl 0 rfl) ?_
  refine va_get (ci := 9) (v := .int (nI m_at)) (C := RX9) (T := TX9) (N := 24) hx hb hts hi9 hown hK hP 0 rfl rfl 5 (by decide) fl28 (fun _ h9 => h9) rfl dX9_takes_1 ?_
  refine lv_aload_n hx hb dX9_takes_4 rfl (lv_at hl 0 rfl) ?_
  refine va_get (ci := 9) (v := .int (nI m_to)) (C := RX9) (T := TX9) (N := 24) hx hb hts hi9 hown hK hP 0 rfl rfl 6 (by decide) fl25 (fun _ h9 => h9) rfl dX9_takes_5 ?_
  refine lv_icmp_ge (tgt := 28) hx hb dX9_takes_8 (by decide) (fun c8 => ?_) (fun c8 => ?_)
  ·
    have d8 : ((m_at : Nat) : Int) ≥ ((m_to : Nat) : Int) := my_ge c8 (nI_toInt (by omega)) (nI_toInt (by omega))
    refine lv_iconst (v := 0) hx hb dX9_takes_28 (by decide +kernel) ?_
    refine lv_istore_n (lv' := [(2, .int 0), (0, .ref m0), (1, .int cg)]) hx hb dX9_takes_29 rfl hl (by decide) rfl (fun ls hl => ?_)
    refine lv_aload_n hx hb dX9_takes_30 rfl (lv_at hl 1 rfl) ?_
    refine lv_dup hx hb dX9_takes_31 rfl ?_
    refine va_get (ci := 9) (v := .int (nI m_at)) (C := RX9) (T := TX9) (N := 24) hx hb hts hi9 hown hK hP 0 rfl rfl 5 (by decide) fl28 (fun _ h9 => h9) rfl dX9_takes_32 ?_
    refine lv_iload_n hx hb dX9_takes_35 rfl (lv_at hl 0 rfl) ?_
    refine my_gpI (my_pS (As := [.int 0]) (rest := [.int (nI m_at), .ref m0]) ⟨hx, hb, hml, hown, hts⟩ (va_cwS 1 hts gX9_takes_X9_flag rfl rfl rfl (by decide +kernel) ⟨Nat.le_of_ble_eq_true rfl, Nat.le_of_ble_eq_true rfl⟩) hN hK hP [] rfl rfl hl.1 rfl (Nat.le_of_ble_eq_true rfl) dX9_takes_36 ⟨Nat.le_of_ble_eq_true rfl, Nat.le_of_ble_eq_true rfl⟩  (k0_X9_flag l D cI cJ cK )) (fun r hp => ?_)
    obtain rfl := hp
    refine lv_iadd hx hb dX9_takes_39 ?_
    refine my_eqi (y := nI m_at) (my_addN m_at 0) ?_
    refine va_put (ci := 9) (v := .int (nI m_at)) (ty := (.int)) (C := RX9) (T := TX9) (N := 24) hx hb hts hi9 tyX9 tyX9_ok nmX9 hown hK hP hD hS 0 rfl rfl 5 (by decide) fl28 (fun _ h9 => h9) rfl (by decide +kernel) rfl rfl (Nat.le_of_ble_eq_true rfl) dX9_takes_40 (fun H locs hP hD hS => ?_)
    have hP : va_P D vwCl (wl_k_X9_takes cI cJ cK m0 a_row a_tape a_number a_read a_readBits a_stands a_parted a_bitsWere a_stood a_chosen a_bestChosen a_often a_sorted a_risen a_risenWays m_thrown (nI m_told) (nI m_taped) (nI m_at) (nI m_to) (nI m_many) (nI m_readMany) m_fewest (nI m_size) mt) H := hP
    have hD : va_D A (wl_k_X9_takes cI cJ cK m0 a_row a_tape a_number a_read a_readBits a_stands a_parted a_bitsWere a_stood a_chosen a_bestChosen a_often a_sorted a_risen a_risenWays m_thrown (nI m_told) (nI m_taped) (nI m_at) (nI m_to) (nI m_many) (nI m_readMany) m_fewest (nI m_size) mt) := hD
    refine lv_iload_n hx hb dX9_takes_43 rfl (lv_at hl 0 rfl) ?_
    exact my_retZ hx hb hr hlocks (by decide +kernel) hK hS (wl_k_X9_takes cI cJ cK m0 a_row a_tape a_number a_read a_readBits a_stands a_parted a_bitsWere a_stood a_chosen a_bestChosen a_often a_sorted a_risen a_risenWays m_thrown (nI m_told) (nI m_taped) (nI m_at) (nI m_to) (nI m_many) (nI m_readMany) m_fewest (nI m_size) mt) hP hD (Or.inr (⟨rfl, rfl, (by first | assumption | omega | trivial | decide +kernel)⟩)) dX9_takes_44
  ·
    have d8 : ((m_at : Nat) : Int) < ((m_to : Nat) : Int) := my_nge c8 (nI_toInt (by omega)) (nI_toInt (by omega))
    refine lv_aload_n hx hb dX9_takes_11 rfl (lv_at hl 0 rfl) ?_
    refine va_get (ci := 9) (v := .ref a_tape) (C := RX9) (T := TX9) (N := 24) hx hb hts hi9 hown hK hP 0 rfl rfl 3 (by decide) fl17 (fun _ h9 => h9) rfl dX9_takes_12 ?_
    refine lv_aload_n hx hb dX9_takes_15 rfl (lv_at hl 0 rfl) ?_
    refine va_get (ci := 9) (v := .int (nI m_at)) (C := RX9) (T := TX9) (N := 24) hx hb hts hi9 hown hK hP 0 rfl rfl 5 (by decide) fl28 (fun _ h9 => h9) rfl dX9_takes_16 ?_
    refine va_iald hx hb hK hP 1 0 rfl rfl (vp_in_nI (by omega) (by omega)) dX9_takes_19 ?_
    refine my_eqi (y := mt m_at) (congrArg mt (nI_clamp (by omega))) ?_
    have hb_1 := hR_mt m_at
    refine lv_iload_n hx hb dX9_takes_20 rfl (lv_at hl 1 rfl) ?_
    refine lv_icmp_ne (tgt := 28) hx hb dX9_takes_21 (by decide) (fun c21 => ?_) (fun c21 => ?_)
    ·
      have d21 : (mt m_at).toInt ≠ cg.toInt := my_ne c21 rfl rfl
      refine lv_iconst (v := 0) hx hb dX9_takes_28 (by decide +kernel) ?_
      refine lv_istore_n (lv' := [(2, .int 0), (0, .ref m0), (1, .int cg)]) hx hb dX9_takes_29 rfl hl (by decide) rfl (fun ls hl => ?_)
      refine lv_aload_n hx hb dX9_takes_30 rfl (lv_at hl 1 rfl) ?_
      refine lv_dup hx hb dX9_takes_31 rfl ?_
      refine va_get (ci := 9) (v := .int (nI m_at)) (C := RX9) (T := TX9) (N := 24) hx hb hts hi9 hown hK hP 0 rfl rfl 5 (by decide) fl28 (fun _ h9 => h9) rfl dX9_takes_32 ?_
      refine lv_iload_n hx hb dX9_takes_35 rfl (lv_at hl 0 rfl) ?_
      refine my_gpI (my_pS (As := [.int 0]) (rest := [.int (nI m_at), .ref m0]) ⟨hx, hb, hml, hown, hts⟩ (va_cwS 1 hts gX9_takes_X9_flag rfl rfl rfl (by decide +kernel) ⟨Nat.le_of_ble_eq_true rfl, Nat.le_of_ble_eq_true rfl⟩) hN hK hP [] rfl rfl hl.1 rfl (Nat.le_of_ble_eq_true rfl) dX9_takes_36 ⟨Nat.le_of_ble_eq_true rfl, Nat.le_of_ble_eq_true rfl⟩  (k0_X9_flag l D cI cJ cK )) (fun r hp => ?_)
      obtain rfl := hp
      refine lv_iadd hx hb dX9_takes_39 ?_
      refine my_eqi (y := nI m_at) (my_addN m_at 0) ?_
      refine va_put (ci := 9) (v := .int (nI m_at)) (ty := (.int)) (C := RX9) (T := TX9) (N := 24) hx hb hts hi9 tyX9 tyX9_ok nmX9 hown hK hP hD hS 0 rfl rfl 5 (by decide) fl28 (fun _ h9 => h9) rfl (by decide +kernel) rfl rfl (Nat.le_of_ble_eq_true rfl) dX9_takes_40 (fun H locs hP hD hS => ?_)
      have hP : va_P D vwCl (wl_k_X9_takes cI cJ cK m0 a_row a_tape a_number a_read a_readBits a_stands a_parted a_bitsWere a_stood a_chosen a_bestChosen a_often a_sorted a_risen a_risenWays m_thrown (nI m_told) (nI m_taped) (nI m_at) (nI m_to) (nI m_many) (nI m_readMany) m_fewest (nI m_size) mt) H := hP
      have hD : va_D A (wl_k_X9_takes cI cJ cK m0 a_row a_tape a_number a_read a_readBits a_stands a_parted a_bitsWere a_stood a_chosen a_bestChosen a_often a_sorted a_risen a_risenWays m_thrown (nI m_told) (nI m_taped) (nI m_at) (nI m_to) (nI m_many) (nI m_readMany) m_fewest (nI m_size) mt) := hD
      refine lv_iload_n hx hb dX9_takes_43 rfl (lv_at hl 0 rfl) ?_
      exact my_retZ hx hb hr hlocks (by decide +kernel) hK hS (wl_k_X9_takes cI cJ cK m0 a_row a_tape a_number a_read a_readBits a_stands a_parted a_bitsWere a_stood a_chosen a_bestChosen a_often a_sorted a_risen a_risenWays m_thrown (nI m_told) (nI m_taped) (nI m_at) (nI m_to) (nI m_many) (nI m_readMany) m_fewest (nI m_size) mt) hP hD (Or.inr (⟨rfl, rfl, (by first | assumption | omega | trivial | decide +kernel)⟩)) dX9_takes_44
    ·
      have d21 : (mt m_at).toInt = cg.toInt := my_eq c21 rfl rfl
      refine lv_iconst (v := 1) hx hb dX9_takes_24 (by decide +kernel) ?_
      refine lv_goto (tgt := 29) hx hb dX9_takes_25 (by decide) ?_
      refine lv_istore_n (lv' := [(2, .int 1), (0, .ref m0), (1, .int cg)]) hx hb dX9_takes_29 rfl hl (by decide) rfl (fun ls hl => ?_)
      refine lv_aload_n hx hb dX9_takes_30 rfl (lv_at hl 1 rfl) ?_
      refine lv_dup hx hb dX9_takes_31 rfl ?_
      refine va_get (ci := 9) (v := .int (nI m_at)) (C := RX9) (T := TX9) (N := 24) hx hb hts hi9 hown hK hP 0 rfl rfl 5 (by decide) fl28 (fun _ h9 => h9) rfl dX9_takes_32 ?_
      refine lv_iload_n hx hb dX9_takes_35 rfl (lv_at hl 0 rfl) ?_
      refine my_gpI (my_pS (As := [.int 1]) (rest := [.int (nI m_at), .ref m0]) ⟨hx, hb, hml, hown, hts⟩ (va_cwS 1 hts gX9_takes_X9_flag rfl rfl rfl (by decide +kernel) ⟨Nat.le_of_ble_eq_true rfl, Nat.le_of_ble_eq_true rfl⟩) hN hK hP [] rfl rfl hl.1 rfl (Nat.le_of_ble_eq_true rfl) dX9_takes_36 ⟨Nat.le_of_ble_eq_true rfl, Nat.le_of_ble_eq_true rfl⟩  (k1_X9_flag l D cI cJ cK )) (fun r hp => ?_)
      obtain rfl := hp
      refine lv_iadd hx hb dX9_takes_39 ?_
      refine my_eqi (y := nI (m_at + 1)) (my_addN m_at 1) ?_
      refine va_put (ci := 9) (v := .int (nI (m_at + 1))) (ty := (.int)) (C := RX9) (T := TX9) (N := 24) hx hb hts hi9 tyX9 tyX9_ok nmX9 hown hK hP hD hS 0 rfl rfl 5 (by decide) fl28 (fun _ h9 => h9) rfl (by decide +kernel) rfl rfl (Nat.le_of_ble_eq_true rfl) dX9_takes_40 (fun H locs hP hD hS => ?_)
      have hP : va_P D vwCl (wl_k_X9_takes cI cJ cK m0 a_row a_tape a_number a_read a_readBits a_stands a_parted a_bitsWere a_stood a_chosen a_bestChosen a_often a_sorted a_risen a_risenWays m_thrown (nI m_told) (nI m_taped) (nI (m_at + 1)) (nI m_to) (nI m_many) (nI m_readMany) m_fewest (nI m_size) mt) H := hP
      have hD : va_D A (wl_k_X9_takes cI cJ cK m0 a_row a_tape a_number a_read a_readBits a_stands a_parted a_bitsWere a_stood a_chosen a_bestChosen a_often a_sorted a_risen a_risenWays m_thrown (nI m_told) (nI m_taped) (nI (m_at + 1)) (nI m_to) (nI m_many) (nI m_readMany) m_fewest (nI m_size) mt) := hD
      refine lv_iload_n hx hb dX9_takes_43 rfl (lv_at hl 0 rfl) ?_
      exact my_retZ hx hb hr hlocks (by decide +kernel) hK hS (wl_k_X9_takes cI cJ cK m0 a_row a_tape a_number a_read a_readBits a_stands a_parted a_bitsWere a_stood a_chosen a_bestChosen a_often a_sorted a_risen a_risenWays m_thrown (nI m_told) (nI m_taped) (nI (m_at + 1)) (nI m_to) (nI m_many) (nI m_readMany) m_fewest (nI m_size) mt) hP hD (Or.inl ⟨rfl, rfl, (by first | assumption | omega | trivial | decide +kernel), (by first | assumption | omega | trivial | decide +kernel)⟩) dX9_takes_44
set_option maxHeartbeats 4000000 in
set_option maxRecDepth 100000 in
theorem k_X9_isDigit (l : Launch) (D : va_G) (cI cJ cK : ClassId) (m0 : Nat) (a_row : Nat) (a_tape : Nat) (a_number : Nat) (a_read : Nat) (a_readBits : Nat) (a_stands : Nat) (a_parted : Nat) (a_bitsWere : Nat) (a_stood : Nat) (a_chosen : Nat) (a_bestChosen : Nat) (a_often : Nat) (a_sorted : Nat) (a_risen : Nat) (a_risenWays : Nat) (m_thrown : Int32) (m_told : Nat) (m_taped : Nat) (m_at : Nat) (m_to : Nat) (m_many : Nat) (m_readMany : Nat) (m_fewest : Int32) (m_size : Nat) (mt : Nat → Int32) (hz_m_told : m_told ≤ 64) (hz_m_taped : m_taped ≤ 100) (hz_m_at : m_at ≤ 100) (hz_m_to : m_to ≤ 100) (hz_m_many : m_many ≤ 64) (hz_m_readMany : m_readMany ≤ 64) (hz_m_size : m_size ≤ 64) (hR_mt : RB 0 255 mt) : cpI l yX9_isDigit wsX9_isDigit ({ frames := 1, cells := 0, slots := 0, locals := 60 } : Room) D (tyIJ cI cJ cK) [.ref m0] [(m0, .inr (9, [.int m_thrown, .int (nI m_told), .ref a_row, .ref a_tape, .int (nI m_taped), .int (nI m_at), .int (nI m_to), .int (nI m_many), .ref a_number, .ref a_read, .int (nI m_readMany), .ref a_readBits, .ref a_stands, .ref a_parted, .ref a_bitsWere, .ref a_stood, .ref a_chosen, .ref a_bestChosen, .int m_fewest, .ref a_often, .ref a_sorted, .int (nI m_size), .ref a_risen, .ref a_risenWays])), (a_tape, .inl (cI, 100, .inl mt))] (fun (r : Int32) => (r = 1 ∧ m_at < m_to ∧ 48 ≤ (mt m_at).toInt ∧ (mt m_at).toInt ≤ 57) ∨ (r = 0 ∧ (m_to ≤ m_at ∨ (mt m_at).toInt < 48 ∨ 57 < (mt m_at).toInt))) := by
  refine cpI.of (cc := cX9_isDigit) (maxL := 1) (ret := (some .boolean)) (by decide) rfl (Nat.le_of_ble_eq_true rfl) ?_
  intro p e s m below meth c ls hx hb hr hts hown hml hlocks hname hK hN hP hl
  have hl : lv_has ls 1 [(0, .ref m0)] := hl
  have hown : s.vm.findClass RX9 = some m.cls := hown
  have hi9 : ∀ w ∈ u_ws RX9 TX9 24, w ∈ wsX9_isDigit := by decide +kernel
  have fl17 := hts (.fieldLink RX9 17 "PlaneColumnModel" "tape" "[I") (by decide +kernel)
  have fl25 := hts (.fieldLink RX9 25 "PlaneColumnModel" "to" "I") (by decide +kernel)
  have fl28 := hts (.fieldLink RX9 28 "PlaneColumnModel" "at" "I") (by decide +kernel)
  refine lv_aload_n hx hb dX9_isDigit_0 rfl (lv_at hl 0 rfl) ?_
  refine va_get (ci := 9) (v := .int (nI m_at)) (C := RX9) (T := TX9) (N := 24) hx hb hts hi9 hown hK hP 0 rfl rfl 5 (by decide) fl28 (fun _ h9 => h9) rfl dX9_isDigit_1 ?_
  refine lv_aload_n hx hb dX9_isDigit_4 rfl (lv_at hl 0 rfl) ?_
  refine va_get (ci := 9) (v := .int (nI m_to)) (C := RX9) (T := TX9) (N := 24) hx hb hts hi9 hown hK hP 0 rfl rfl 6 (by decide) fl25 (fun _ h9 => h9) rfl dX9_isDigit_5 ?_
  refine lv_icmp_ge (tgt := 37) hx hb dX9_isDigit_8 (by decide) (fun c8 => ?_) (fun c8 => ?_)
  ·
    have d8 : ((m_at : Nat) : Int) ≥ ((m_to : Nat) : Int) := my_ge c8 (nI_toInt (by omega)) (nI_toInt (by omega))
    refine lv_iconst (v := 0) hx hb dX9_isDigit_37 (by decide +kernel) ?_
    exact my_rpZ hx hb hr hlocks (by decide +kernel) (Or.inr (⟨rfl, (by first | assumption | omega | trivial | decide +kernel)⟩)) dX9_isDigit_38
  ·
    have d8 : ((m_at : Nat) : Int) < ((m_to : Nat) : Int) := my_nge c8 (nI_toInt (by omega)) (nI_toInt (by omega))
    refine lv_aload_n hx hb dX9_isDigit_11 rfl (lv_at hl 0 rfl) ?_
    refine va_get (ci := 9) (v := .ref a_tape) (C := RX9) (T := TX9) (N := 24) hx hb hts hi9 hown hK hP 0 rfl rfl 3 (by decide) fl17 (fun _ h9 => h9) rfl dX9_isDigit_12 ?_
    refine lv_aload_n hx hb dX9_isDigit_15 rfl (lv_at hl 0 rfl) ?_
    refine va_get (ci := 9) (v := .int (nI m_at)) (C := RX9) (T := TX9) (N := 24) hx hb hts hi9 hown hK hP 0 rfl rfl 5 (by decide) fl28 (fun _ h9 => h9) rfl dX9_isDigit_16 ?_
    refine va_iald hx hb hK hP 1 0 rfl rfl (vp_in_nI (by omega) (by omega)) dX9_isDigit_19 ?_
    refine my_eqi (y := mt m_at) (congrArg mt (nI_clamp (by omega))) ?_
    have hb_1 := hR_mt m_at
    refine lv_i2l (v := (mt m_at).toInt64) hx hb dX9_isDigit_20 rfl ?_
    refine lv_ldc2 (v := 48) hx hb hown (hts (.constantLong RX9 35 (48)) (by decide +kernel)) dX9_isDigit_21 ?_
    refine lv_ldc2 (v := 57) hx hb hown (hts (.constantLong RX9 37 (57)) (by decide +kernel)) dX9_isDigit_24 ?_
    refine my_gpI (my_pS (As := [.long ((mt m_at).toInt64), .long 48, .long 57]) (rest := []) ⟨hx, hb, hml, hown, hts⟩ (va_cwS 3 hts gX9_isDigit_X9_in rfl rfl rfl (by decide +kernel) ⟨Nat.le_of_ble_eq_true rfl, Nat.le_of_ble_eq_true rfl⟩) hN hK hP [] rfl rfl hl.1 rfl (Nat.le_of_ble_eq_true rfl) dX9_isDigit_27 ⟨Nat.le_of_ble_eq_true rfl, Nat.le_of_ble_eq_true rfl⟩  (k_X9_in l D cI cJ cK ((mt m_at).toInt64) (48 : Int64) (57 : Int64) ((mt m_at).toInt) (Int32.toInt_toInt64 _) (48 : Int) (by decide +kernel) (57 : Int) (by decide +kernel))) (fun r hp => ?_)
    rcases hp with ⟨rfl, ha_2, hb_3⟩ | ⟨rfl, ho_4⟩
    ·
      refine lv_if_eq (tgt := 37) hx hb dX9_isDigit_30 (by decide) (fun c30 => ?_) (fun c30 => ?_)
      ·
        exact absurd c30 (by decide +kernel)
      ·
        refine lv_iconst (v := 1) hx hb dX9_isDigit_33 (by decide +kernel) ?_
        refine lv_goto (tgt := 38) hx hb dX9_isDigit_34 (by decide) ?_
        exact my_rpZ hx hb hr hlocks (by decide +kernel) (Or.inl ⟨rfl, (by first | assumption | omega | trivial | decide +kernel), (by first | assumption | omega | trivial | decide +kernel), (by first | assumption | omega | trivial | decide +kernel)⟩) dX9_isDigit_38
    ·
      refine lv_if_eq (tgt := 37) hx hb dX9_isDigit_30 (by decide) (fun c30 => ?_) (fun c30 => ?_)
      ·
        refine lv_iconst (v := 0) hx hb dX9_isDigit_37 (by decide +kernel) ?_
        exact my_rpZ hx hb hr hlocks (by decide +kernel) (Or.inr (⟨rfl, (by first | assumption | omega | trivial | decide +kernel)⟩)) dX9_isDigit_38
      ·
        exact absurd c30 (by decide +kernel)
abbrev wl_k_X9_number (cI cJ cK : ClassId) (m0 : Nat) (a_row : Nat) (a_tape : Nat) (a_number : Nat) (a_read : Nat) (a_readBits : Nat) (a_stands : Nat) (a_parted : Nat) (a_bitsWere : Nat) (a_stood : Nat) (a_chosen : Nat) (a_bestChosen : Nat) (a_often : Nat) (a_sorted : Nat) (a_risen : Nat) (a_risenWays : Nat) (v0_ : Int32) (v1_ : Int32) (v2_ : Int32) (v3_ : Int32) (v4_ : Int32) (v5_ : Int32) (v6_ : Int32) (v7_ : Int32) (v8_ : Int32) (v9_ : Nat → Int32) : va_W := [(m0, .inr (9, [.int v0_, .int v1_, .ref a_row, .ref a_tape, .int v2_, .int v3_, .int v4_, .int v5_, .ref a_number, .ref a_read, .int v6_, .ref a_readBits, .ref a_stands, .ref a_parted, .ref a_bitsWere, .ref a_stood, .ref a_chosen, .ref a_bestChosen, .int v7_, .ref a_often, .ref a_sorted, .int v8_, .ref a_risen, .ref a_risenWays])), (a_tape, .inl (cI, 100, .inl v9_))]
set_option maxHeartbeats 4000000 in
set_option maxRecDepth 100000 in
theorem k_X9_number (l : Launch) (D : va_G) (cI cJ cK : ClassId) (m0 : Nat) (a_row : Nat) (a_tape : Nat) (a_number : Nat) (a_read : Nat) (a_readBits : Nat) (a_stands : Nat) (a_parted : Nat) (a_bitsWere : Nat) (a_stood : Nat) (a_chosen : Nat) (a_bestChosen : Nat) (a_often : Nat) (a_sorted : Nat) (a_risen : Nat) (a_risenWays : Nat) (m_thrown : Int32) (m_told : Nat) (m_taped : Nat) (m_at : Nat) (m_to : Nat) (m_many : Nat) (m_readMany : Nat) (m_fewest : Int32) (m_size : Nat) (mt : Nat → Int32) (dn : Nat) (lo : Nat) (hi : Nat) (hz_m_told : m_told ≤ 64) (hz_m_taped : m_taped ≤ 100) (hz_m_at : m_at ≤ 100) (hz_m_to : m_to ≤ 100) (hz_m_many : m_many ≤ 64) (hz_m_readMany : m_readMany ≤ 64) (hz_m_size : m_size ≤ 64) (hR_mt : RB 0 255 mt) (hd3 : dn ≤ 3) (hh9 : hi ≤ 255) (hlo : lo ≤ 255) (hpa : m_at ≤ m_to) : ctI l yX9_number wsX9_number ({ frames := 2, cells := 0, slots := 0, locals := 120 } : Room) D (tyIJ cI cJ cK) [.ref m0, .int (nI dn), .int (nI lo), .int (nI hi)] (wl_k_X9_number cI cJ cK m0 a_row a_tape a_number a_read a_readBits a_stands a_parted a_bitsWere a_stood a_chosen a_bestChosen a_often a_sorted a_risen a_risenWays m_thrown (nI m_told) (nI m_taped) (nI m_at) (nI m_to) (nI m_many) (nI m_readMany) m_fewest (nI m_size) mt) (fun (r : Int32) (u : va_W) => (∃ (v' : Nat) (m_at' : Nat), u = (wl_k_X9_number cI cJ cK m0 a_row a_tape a_number a_read a_readBits a_stands a_parted a_bitsWere a_stood a_chosen a_bestChosen a_often a_sorted a_risen a_risenWays m_thrown (nI m_told) (nI m_taped) (nI m_at') (nI m_to) (nI m_many) (nI m_readMany) m_fewest (nI m_size) mt) ∧ r = nI v' ∧ m_at' ≤ 100 ∧ nmOk mt m_to dn lo hi m_at ∧ v' = rdV mt m_to dn m_at 0 ∧ m_at' = rdE mt m_to dn m_at ∧ m_at' ≤ m_to ∧ m_at ≤ m_at' ∧ lo ≤ v' ∧ v' ≤ hi) ∨ (∃ (m_at' : Nat), u = (wl_k_X9_number cI cJ cK m0 a_row a_tape a_number a_read a_readBits a_stands a_parted a_bitsWere a_stood a_chosen a_bestChosen a_often a_sorted a_risen a_risenWays m_thrown (nI m_told) (nI m_taped) (nI m_at') (nI m_to) (nI m_many) (nI m_readMany) m_fewest (nI m_size) mt) ∧ r = (-1) ∧ m_at' ≤ 100 ∧ ¬ nmOk mt m_to dn lo hi m_at ∧ m_at' ≤ m_to ∧ m_at ≤ m_at')) := by
  refine ctI.of (cc := cX9_number) (maxL := 6) (ret := (some .int)) (by decide) rfl (Nat.le_of_ble_eq_true rfl) ?_
  intro p e s m below meth c ls A hx hb hr hts hown hml hlocks hname hA hK hN hP hD hS hl
  have hl : lv_has ls 6 [(0, .ref m0), (1, .int (nI dn)), (2, .int (nI lo)), (3, .int (nI hi))] := hl
  have hown : s.vm.findClass RX9 = some m.cls := hown
  have hi9 : ∀ w ∈ u_ws RX9 TX9 24, w ∈ wsX9_number := by decide +kernel
  have fl17 := hts (.fieldLink RX9 17 "PlaneColumnModel" "tape" "[I") (by decide +kernel)
  have fl28 := hts (.fieldLink RX9 28 "PlaneColumnModel" "at" "I") (by decide +kernel)
  refine lv_iconst (v := 0) hx hb dX9_number_0 (by decide +kernel) ?_
  refine lv_istore (lv' := [(4, .int 0), (0, .ref m0), (1, .int (nI dn)), (2, .int (nI lo)), (3, .int (nI hi))]) hx hb dX9_number_1 hl (by decide) rfl (fun ls hl => ?_)
  refine lv_iconst (v := 0) hx hb dX9_number_3 (by decide +kernel) ?_
  refine lv_istore (lv' := [(5, .int 0), (4, .int 0), (0, .ref m0), (1, .int (nI dn)), (2, .int (nI lo)), (3, .int (nI hi))]) hx hb dX9_number_4 hl (by decide) rfl (fun ls hl => ?_)
  have loop6 : ∀ (n9 : Nat) (k : Nat) (v : Nat) (m0_at_6 : Nat), 3 - k < n9 → (v ≤ 999) → (k ≤ 3) → (k ≤ dn) → (m0_at_6 = m_at + k) → (m0_at_6 ≤ m_to) → (v < 10 ^ k) → (rdE mt m_to dn m_at = rdE mt m_to (dn - k) m0_at_6) → (rdV mt m_to dn m_at 0 = rdV mt m_to (dn - k) m0_at_6 v) → (m0_at_6 ≤ 100) → ∀ (H : Heap) (locs : List Loc) (ls : Array Slot), va_P D vwCl (wl_k_X9_number cI cJ cK m0 a_row a_tape a_number a_read a_readBits a_stands a_parted a_bitsWere a_stood a_chosen a_bestChosen a_often a_sorted a_risen a_risenWays m_thrown (nI m_told) (nI m_taped) (nI m0_at_6) (nI m_to) (nI m_many) (nI m_readMany) m_fewest (nI m_size) mt) H → va_D A (wl_k_X9_number cI cJ cK m0 a_row a_tape a_number a_read a_readBits a_stands a_parted a_bitsWere a_stood a_chosen a_bestChosen a_often a_sorted a_risen a_risenWays m_thrown (nI m_told) (nI m_taped) (nI m0_at_6) (nI m_to) (nI m_many) (nI m_readMany) m_fewest (nI m_size) mt) → va_S A s.heap H locs → lv_has ls 6 [(5, .int (nI k)), (4, .int (nI v)), (0, .ref m0), (1, .int (nI dn)), (2, .int (nI lo)), (3, .int (nI hi))] → W p l e ({ frames := 2, cells := 0, slots := 0, locals := 120 } : Room) s m [.ref m0, .int (nI dn), .int (nI lo), .int (nI hi)].toArray below meth c H locs 0 0 (MQ below (va_Qi (fun (r : Int32) (u : va_W) => (∃ (v' : Nat) (m_at' : Nat), u = (wl_k_X9_number cI cJ cK m0 a_row a_tape a_number a_read a_readBits a_stands a_parted a_bitsWere a_stood a_chosen a_bestChosen a_often a_sorted a_risen a_risenWays m_thrown (nI m_told) (nI m_taped) (nI m_at') (nI m_to) (nI m_many) (nI m_readMany) m_fewest (nI m_size) mt) ∧ r = nI v' ∧ m_at' ≤ 100 ∧ nmOk mt m_to dn lo hi m_at ∧ v' = rdV mt m_to dn m_at 0 ∧ m_at' = rdE mt m_to dn m_at ∧ m_at' ≤ m_to ∧ m_at ≤ m_at' ∧ lo ≤ v' ∧ v' ≤ hi) ∨ (∃ (m_at' : Nat), u = (wl_k_X9_number cI cJ cK m0 a_row a_tape a_number a_read a_readBits a_stands a_parted a_bitsWere a_stood a_chosen a_bestChosen a_often a_sorted a_risen a_risenWays m_thrown (nI m_told) (nI m_taped) (nI m_at') (nI m_to) (nI m_many) (nI m_readMany) m_fewest (nI m_size) mt) ∧ r = (-1) ∧ m_at' ≤ 100 ∧ ¬ nmOk mt m_to dn lo hi m_at ∧ m_at' ≤ m_to ∧ m_at ≤ m_at')) (my_B D (tyIJ cI cJ cK) A) A) [.ref m0, .int (nI dn), .int (nI lo), .int (nI hi)].toArray s 0 0 A) (F0 m 6 ls []) := by
    intro n9
    induction n9 with
    | zero =>
      intro k v m0_at_6 hn9
      exact absurd hn9 (Nat.not_lt_zero _)
    | succ n9 ih6 =>
      intro k v m0_at_6 hn9 hk_v hk_k hkD hat hat2 hv10 hE hV hz_m0_at_6 H locs ls hP hD hS hl
      have hp10 := my_p10 (k := k) (by omega)
      have hp11 : 10 ^ (k + 1) = 10 ^ k * 10 := Nat.pow_succ ..
      have hp12 : 3 ≤ k ∨ 10 ^ (k + 1) ≤ 1000 := (Nat.lt_or_ge k 3).elim (fun h => Or.inr (my_p10 (k := k + 1) h).2) Or.inl
      refine lv_aload_n hx hb dX9_number_6 rfl (lv_at hl 2 rfl) ?_
      refine my_gpI (my_pV (As := []) (rest := []) (ci := 9) ⟨hx, hb, hml, hown, hts⟩ (cwV 0 hts gX9_number_X9_isDigit rfl rfl rfl (by decide +kernel) ⟨Nat.le_of_ble_eq_true rfl, Nat.le_of_ble_eq_true rfl⟩) hN hK hP [0, 1] rfl 0 rfl rfl rfl rfl hl.1 rfl (Nat.le_of_ble_eq_true rfl) dX9_number_7 ⟨Nat.le_of_ble_eq_true rfl, Nat.le_of_ble_eq_true rfl⟩  (k_X9_isDigit l D cI cJ cK m0 a_row a_tape a_number a_read a_readBits a_stands a_parted a_bitsWere a_stood a_chosen a_bestChosen a_often a_sorted a_risen a_risenWays m_thrown m_told m_taped m0_at_6 m_to m_many m_readMany m_fewest m_size mt (by first | assumption | omega | decide +kernel) (by first | assumption | omega | decide +kernel) (by first | assumption | omega | decide +kernel) (by first | assumption | omega | decide +kernel) (by first | assumption | omega | decide +kernel) (by first | assumption | omega | decide +kernel) (by first | assumption | omega | decide +kernel) hR_mt)) (fun r hp => ?_)
      rcases hp with ⟨rfl, ha_1, hb_2, hc_3⟩ | ⟨rfl, ho_4⟩
      ·
        refine lv_if_eq (tgt := 55) hx hb dX9_number_10 (by decide) (fun c10 => ?_) (fun c10 => ?_)
        ·
          exact absurd c10 (by decide +kernel)
        ·
          refine lv_iload hx hb dX9_number_13 (lv_at hl 0 rfl) ?_
          refine lv_iload_n hx hb dX9_number_15 rfl (lv_at hl 3 rfl) ?_
          refine lv_icmp_ge (tgt := 55) hx hb dX9_number_16 (by decide) (fun c16 => ?_) (fun c16 => ?_)
          ·
            have d16 : ((k : Nat) : Int) ≥ ((dn : Nat) : Int) := my_ge c16 (nI_toInt (by omega)) (nI_toInt (by omega))
            have hex := rd_exit (f := mt) (n := m_to) (d := dn) (k := k) (a := m0_at_6) (v := v) (by first | (left; omega) | (right; exact dgt_no (by omega)))
            refine lv_iload hx hb dX9_number_55 (lv_at hl 0 rfl) ?_
            refine lv_if_eq (tgt := 67) hx hb dX9_number_57 (by decide) (fun c57 => ?_) (fun c57 => ?_)
            ·
              have d57 : ((k : Nat) : Int) = (0 : Int) := my_eq c57 (nI_toInt (by omega)) (by decide +kernel)
              refine lv_iconst (v := (-1)) hx hb dX9_number_67 (by decide +kernel) ?_
              exact my_retI hx hb hr hlocks hK hS (wl_k_X9_number cI cJ cK m0 a_row a_tape a_number a_read a_readBits a_stands a_parted a_bitsWere a_stood a_chosen a_bestChosen a_often a_sorted a_risen a_risenWays m_thrown (nI m_told) (nI m_taped) (nI m0_at_6) (nI m_to) (nI m_many) (nI m_readMany) m_fewest (nI m_size) mt) hP hD (Or.inr (⟨m0_at_6, rfl, rfl, (by first | assumption | omega | trivial | decide +kernel), (by intro h9; first | (have h8 := h9.1; rw [hE, hex.1] at h8; omega) | (have h8 := h9.2.2; rw [hV, hex.2] at h8; omega) | (have h8 := h9.2.1; rw [hE, hex.1, dgt_iff.mpr ⟨by omega, by omega, by omega⟩] at h8; cases h8)), (by first | assumption | omega | trivial | decide +kernel), (by first | assumption | omega | trivial | decide +kernel)⟩)) dX9_number_68
            ·
              have d57 : ((k : Nat) : Int) ≠ (0 : Int) := my_ne c57 (nI_toInt (by omega)) (by decide +kernel)
              refine lv_aload_n hx hb dX9_number_60 rfl (lv_at hl 2 rfl) ?_
              refine my_gpI (my_pV (As := []) (rest := []) (ci := 9) ⟨hx, hb, hml, hown, hts⟩ (cwV 0 hts gX9_number_X9_isDigit rfl rfl rfl (by decide +kernel) ⟨Nat.le_of_ble_eq_true rfl, Nat.le_of_ble_eq_true rfl⟩) hN hK hP [0, 1] rfl 0 rfl rfl rfl rfl hl.1 rfl (Nat.le_of_ble_eq_true rfl) dX9_number_61 ⟨Nat.le_of_ble_eq_true rfl, Nat.le_of_ble_eq_true rfl⟩  (k_X9_isDigit l D cI cJ cK m0 a_row a_tape a_number a_read a_readBits a_stands a_parted a_bitsWere a_stood a_chosen a_bestChosen a_often a_sorted a_risen a_risenWays m_thrown m_told m_taped m0_at_6 m_to m_many m_readMany m_fewest m_size mt (by first | assumption | omega | decide +kernel) (by first | assumption | omega | decide +kernel) (by first | assumption | omega | decide +kernel) (by first | assumption | omega | decide +kernel) (by first | assumption | omega | decide +kernel) (by first | assumption | omega | decide +kernel) (by first | assumption | omega | decide +kernel) hR_mt)) (fun r hp => ?_)
              rcases hp with ⟨rfl, ha_5, hb_6, hc_7⟩ | ⟨rfl, ho_8⟩
              ·
                refine lv_if_eq (tgt := 69) hx hb dX9_number_64 (by decide) (fun c64 => ?_) (fun c64 => ?_)
                ·
                  exact absurd c64 (by decide +kernel)
                ·
                  refine lv_iconst (v := (-1)) hx hb dX9_number_67 (by decide +kernel) ?_
                  exact my_retI hx hb hr hlocks hK hS (wl_k_X9_number cI cJ cK m0 a_row a_tape a_number a_read a_readBits a_stands a_parted a_bitsWere a_stood a_chosen a_bestChosen a_often a_sorted a_risen a_risenWays m_thrown (nI m_told) (nI m_taped) (nI m0_at_6) (nI m_to) (nI m_many) (nI m_readMany) m_fewest (nI m_size) mt) hP hD (Or.inr (⟨m0_at_6, rfl, rfl, (by first | assumption | omega | trivial | decide +kernel), (by intro h9; first | (have h8 := h9.1; rw [hE, hex.1] at h8; omega) | (have h8 := h9.2.2; rw [hV, hex.2] at h8; omega) | (have h8 := h9.2.1; rw [hE, hex.1, dgt_iff.mpr ⟨by omega, by omega, by omega⟩] at h8; cases h8)), (by first | assumption | omega | trivial | decide +kernel), (by first | assumption | omega | trivial | decide +kernel)⟩)) dX9_number_68
              ·
                refine lv_if_eq (tgt := 69) hx hb dX9_number_64 (by decide) (fun c64 => ?_) (fun c64 => ?_)
                ·
                  refine lv_iload hx hb dX9_number_69 (lv_at hl 1 rfl) ?_
                  refine lv_i2l (v := lN v) hx hb dX9_number_71 (nI_l (by omega)) ?_
                  refine lv_iload_n hx hb dX9_number_72 rfl (lv_at hl 4 rfl) ?_
                  refine lv_i2l (v := lN lo) hx hb dX9_number_73 (nI_l (by omega)) ?_
                  refine lv_iload_n hx hb dX9_number_74 rfl (lv_at hl 5 rfl) ?_
                  refine lv_i2l (v := lN hi) hx hb dX9_number_75 (nI_l (by omega)) ?_
                  refine my_gpI (my_pS (As := [.long (lN v), .long (lN lo), .long (lN hi)]) (rest := []) ⟨hx, hb, hml, hown, hts⟩ (va_cwS 3 hts gX9_number_X9_in rfl rfl rfl (by decide +kernel) ⟨Nat.le_of_ble_eq_true rfl, Nat.le_of_ble_eq_true rfl⟩) hN hK hP [] rfl rfl hl.1 rfl (Nat.le_of_ble_eq_true rfl) dX9_number_76 ⟨Nat.le_of_ble_eq_true rfl, Nat.le_of_ble_eq_true rfl⟩  (k_X9_in l D cI cJ cK (lN v) (lN lo) (lN hi) ((v : Nat) : Int) (lN_toInt (by omega)) ((lo : Nat) : Int) (lN_toInt (by omega)) ((hi : Nat) : Int) (lN_toInt (by omega)))) (fun r hp => ?_)
                  rcases hp with ⟨rfl, ha_9, hb_10⟩ | ⟨rfl, ho_11⟩
                  ·
                    refine lv_if_ne (tgt := 94) hx hb dX9_number_79 (by decide) (fun c79 => ?_) (fun c79 => ?_)
                    ·
                      refine lv_iload hx hb dX9_number_94 (lv_at hl 1 rfl) ?_
                      exact my_retI hx hb hr hlocks hK hS (wl_k_X9_number cI cJ cK m0 a_row a_tape a_number a_read a_readBits a_stands a_parted a_bitsWere a_stood a_chosen a_bestChosen a_often a_sorted a_risen a_risenWays m_thrown (nI m_told) (nI m_taped) (nI m0_at_6) (nI m_to) (nI m_many) (nI m_readMany) m_fewest (nI m_size) mt) hP hD (Or.inl ⟨v, m0_at_6, rfl, rfl, (by first | assumption | omega | trivial | decide +kernel), ⟨by rw [hE, hex.1]; omega, by rw [hE, hex.1]; exact dgt_no (by omega), by rw [hV, hex.2]; omega, by rw [hV, hex.2]; omega⟩, (by rw [hV, hex.2]), (by rw [hE, hex.1]), (by first | assumption | omega | trivial | decide +kernel), (by first | assumption | omega | trivial | decide +kernel), (by first | assumption | omega | trivial | decide +kernel), (by first | assumption | omega | trivial | decide +kernel)⟩) dX9_number_96
                    ·
                      exact absurd c79 (by decide +kernel)
                  ·
                    refine lv_if_ne (tgt := 94) hx hb dX9_number_79 (by decide) (fun c79 => ?_) (fun c79 => ?_)
                    ·
                      exact absurd c79 (by decide +kernel)
                    ·
                      refine lv_aload_n hx hb dX9_number_82 rfl (lv_at hl 2 rfl) ?_
                      refine lv_dup hx hb dX9_number_83 rfl ?_
                      refine va_get (ci := 9) (v := .int (nI m0_at_6)) (C := RX9) (T := TX9) (N := 24) hx hb hts hi9 hown hK hP 0 rfl rfl 5 (by decide) fl28 (fun _ h9 => h9) rfl dX9_number_84 ?_
                      refine lv_iconst (v := 1) hx hb dX9_number_87 (by decide +kernel) ?_
                      refine lv_isub hx hb dX9_number_88 ?_
                      refine lv_topi (fun z_12 ez_12 => ?_)
                      try have tz_12 : z_12.toInt = ((m0_at_6 : Nat) : Int) - (1 : Int) := by rw [ez_12]; exact my_subI (nI_toInt (by omega)) (by decide +kernel) (by omega) (by omega)
                      obtain ⟨w_13, ew_13, hw_13⟩ : ∃ w : Nat, z_12 = nI w ∧ (w : Int) = (z_12 : Int32).toInt := my_natE (by omega)
                      refine my_eqi (y := nI w_13) ew_13 ?_
                      refine va_put (ci := 9) (v := .int (nI w_13)) (ty := (.int)) (C := RX9) (T := TX9) (N := 24) hx hb hts hi9 tyX9 tyX9_ok nmX9 hown hK hP hD hS 0 rfl rfl 5 (by decide) fl28 (fun _ h9 => h9) rfl (by decide +kernel) rfl rfl (Nat.le_of_ble_eq_true rfl) dX9_number_89 (fun H locs hP hD hS => ?_)
                      have hP : va_P D vwCl (wl_k_X9_number cI cJ cK m0 a_row a_tape a_number a_read a_readBits a_stands a_parted a_bitsWere a_stood a_chosen a_bestChosen a_often a_sorted a_risen a_risenWays m_thrown (nI m_told) (nI m_taped) (nI w_13) (nI m_to) (nI m_many) (nI m_readMany) m_fewest (nI m_size) mt) H := hP
                      have hD : va_D A (wl_k_X9_number cI cJ cK m0 a_row a_tape a_number a_read a_readBits a_stands a_parted a_bitsWere a_stood a_chosen a_bestChosen a_often a_sorted a_risen a_risenWays m_thrown (nI m_told) (nI m_taped) (nI w_13) (nI m_to) (nI m_many) (nI m_readMany) m_fewest (nI m_size) mt) := hD
                      refine lv_iconst (v := (-1)) hx hb dX9_number_92 (by decide +kernel) ?_
                      exact my_retI hx hb hr hlocks hK hS (wl_k_X9_number cI cJ cK m0 a_row a_tape a_number a_read a_readBits a_stands a_parted a_bitsWere a_stood a_chosen a_bestChosen a_often a_sorted a_risen a_risenWays m_thrown (nI m_told) (nI m_taped) (nI w_13) (nI m_to) (nI m_many) (nI m_readMany) m_fewest (nI m_size) mt) hP hD (Or.inr (⟨w_13, rfl, rfl, (by first | assumption | omega | trivial | decide +kernel), (by intro h9; first | (have h8 := h9.1; rw [hE, hex.1] at h8; omega) | (have h8 := h9.2.2; rw [hV, hex.2] at h8; omega) | (have h8 := h9.2.1; rw [hE, hex.1, dgt_iff.mpr ⟨by omega, by omega, by omega⟩] at h8; cases h8)), (by first | assumption | omega | trivial | decide +kernel), (by first | assumption | omega | trivial | decide +kernel)⟩)) dX9_number_93
                ·
                  exact absurd c64 (by decide +kernel)
          ·
            have d16 : ((k : Nat) : Int) < ((dn : Nat) : Int) := my_nge c16 (nI_toInt (by omega)) (nI_toInt (by omega))
            refine lv_bipush (v := 10) hx hb dX9_number_19 (by decide +kernel) ?_
            refine lv_iload hx hb dX9_number_21 (lv_at hl 1 rfl) ?_
            refine lv_imul hx hb dX9_number_23 ?_
            refine my_eqi (y := nI (10 * v)) (my_mulN _ _) ?_
            refine lv_aload_n hx hb dX9_number_24 rfl (lv_at hl 2 rfl) ?_
            refine va_get (ci := 9) (v := .ref a_tape) (C := RX9) (T := TX9) (N := 24) hx hb hts hi9 hown hK hP 0 rfl rfl 3 (by decide) fl17 (fun _ h9 => h9) rfl dX9_number_25 ?_
            refine lv_aload_n hx hb dX9_number_28 rfl (lv_at hl 2 rfl) ?_
            refine va_get (ci := 9) (v := .int (nI m0_at_6)) (C := RX9) (T := TX9) (N := 24) hx hb hts hi9 hown hK hP 0 rfl rfl 5 (by decide) fl28 (fun _ h9 => h9) rfl dX9_number_29 ?_
            refine va_iald hx hb hK hP 1 0 rfl rfl (vp_in_nI (by omega) (by omega)) dX9_number_32 ?_
            refine my_eqi (y := mt m0_at_6) (congrArg mt (nI_clamp (by omega))) ?_
            have hb_14 := hR_mt m0_at_6
            refine lv_iadd hx hb dX9_number_33 ?_
            refine lv_topi (fun z_15 ez_15 => ?_)
            try have tz_15 : z_15.toInt = ((10 * v : Nat) : Int) + (mt m0_at_6).toInt := by rw [ez_15]; exact my_addI (nI_toInt (by omega)) rfl (by omega) (by omega)
            refine lv_bipush (v := 48) hx hb dX9_number_34 (by decide +kernel) ?_
            refine lv_isub hx hb dX9_number_36 ?_
            refine lv_topi (fun z_16 ez_16 => ?_)
            try have tz_16 : z_16.toInt = z_15.toInt - (48 : Int) := by rw [ez_16]; exact my_subI rfl (by decide +kernel) (by omega) (by omega)
            obtain ⟨w_17, ew_17, hw_17⟩ : ∃ w : Nat, z_16 = nI w ∧ (w : Int) = (z_16 : Int32).toInt := my_natE (by omega)
            refine my_eqi (y := nI w_17) ew_17 ?_
            refine lv_istore (lv' := [(4, .int (nI w_17)), (5, .int (nI k)), (0, .ref m0), (1, .int (nI dn)), (2, .int (nI lo)), (3, .int (nI hi))]) hx hb dX9_number_37 hl (by decide) rfl (fun ls hl => ?_)
            refine lv_aload_n hx hb dX9_number_39 rfl (lv_at hl 2 rfl) ?_
            refine lv_dup hx hb dX9_number_40 rfl ?_
            refine va_get (ci := 9) (v := .int (nI m0_at_6)) (C := RX9) (T := TX9) (N := 24) hx hb hts hi9 hown hK hP 0 rfl rfl 5 (by decide) fl28 (fun _ h9 => h9) rfl dX9_number_41 ?_
            refine lv_iconst (v := 1) hx hb dX9_number_44 (by decide +kernel) ?_
            refine lv_iadd hx hb dX9_number_45 ?_
            refine my_eqi (y := nI (m0_at_6 + 1)) (my_addN m0_at_6 1) ?_
            refine va_put (ci := 9) (v := .int (nI (m0_at_6 + 1))) (ty := (.int)) (C := RX9) (T := TX9) (N := 24) hx hb hts hi9 tyX9 tyX9_ok nmX9 hown hK hP hD hS 0 rfl rfl 5 (by decide) fl28 (fun _ h9 => h9) rfl (by decide +kernel) rfl rfl (Nat.le_of_ble_eq_true rfl) dX9_number_46 (fun H locs hP hD hS => ?_)
            have hP : va_P D vwCl (wl_k_X9_number cI cJ cK m0 a_row a_tape a_number a_read a_readBits a_stands a_parted a_bitsWere a_stood a_chosen a_bestChosen a_often a_sorted a_risen a_risenWays m_thrown (nI m_told) (nI m_taped) (nI (m0_at_6 + 1)) (nI m_to) (nI m_many) (nI m_readMany) m_fewest (nI m_size) mt) H := hP
            have hD : va_D A (wl_k_X9_number cI cJ cK m0 a_row a_tape a_number a_read a_readBits a_stands a_parted a_bitsWere a_stood a_chosen a_bestChosen a_often a_sorted a_risen a_risenWays m_thrown (nI m_told) (nI m_taped) (nI (m0_at_6 + 1)) (nI m_to) (nI m_many) (nI m_readMany) m_fewest (nI m_size) mt) := hD
            refine lv_iinc (v := nI (k + 1)) (lv' := [(5, .int (nI (k + 1))), (4, .int (nI w_17)), (0, .ref m0), (1, .int (nI dn)), (2, .int (nI lo)), (3, .int (nI hi))]) hx hb dX9_number_49 hl (k := 1) rfl (my_incN k 1 (by decide +kernel)) (by decide) rfl (fun ls hl => ?_)
            refine lv_goto (tgt := 6) hx hb dX9_number_52 (by decide) ?_
            exact ih6  (k + 1) w_17 (m0_at_6 + 1) (by omega) (by first | assumption | omega | decide +kernel) (by first | assumption | omega | decide +kernel) (by first | assumption | omega | decide +kernel) (by first | assumption | omega | decide +kernel) (by first | assumption | omega | decide +kernel) (by first | assumption | omega | decide +kernel) (hE.trans (rd_yes (d := dn) (v := v) (by omega) (dgt_iff.mpr ⟨by omega, by omega, by omega⟩)).1) (hV.trans ((rd_yes (d := dn) (v := v) (by omega) (dgt_iff.mpr ⟨by omega, by omega, by omega⟩)).2.trans (by rw [show 10 * v + dgv mt m0_at_6 = w_17 from (by unfold dgv; omega)]))) (by first | assumption | omega | decide +kernel) _ _ ls hP hD hS (lv_sub hl [0, 1, 2, 3, 4, 5] rfl)
      ·
        refine lv_if_eq (tgt := 55) hx hb dX9_number_10 (by decide) (fun c10 => ?_) (fun c10 => ?_)
        ·
          have hex := rd_exit (f := mt) (n := m_to) (d := dn) (k := k) (a := m0_at_6) (v := v) (by first | (left; omega) | (right; exact dgt_no (by omega)))
          refine lv_iload hx hb dX9_number_55 (lv_at hl 0 rfl) ?_
          refine lv_if_eq (tgt := 67) hx hb dX9_number_57 (by decide) (fun c57 => ?_) (fun c57 => ?_)
          ·
            have d57 : ((k : Nat) : Int) = (0 : Int) := my_eq c57 (nI_toInt (by omega)) (by decide +kernel)
            refine lv_iconst (v := (-1)) hx hb dX9_number_67 (by decide +kernel) ?_
            exact my_retI hx hb hr hlocks hK hS (wl_k_X9_number cI cJ cK m0 a_row a_tape a_number a_read a_readBits a_stands a_parted a_bitsWere a_stood a_chosen a_bestChosen a_often a_sorted a_risen a_risenWays m_thrown (nI m_told) (nI m_taped) (nI m0_at_6) (nI m_to) (nI m_many) (nI m_readMany) m_fewest (nI m_size) mt) hP hD (Or.inr (⟨m0_at_6, rfl, rfl, (by first | assumption | omega | trivial | decide +kernel), (by intro h9; first | (have h8 := h9.1; rw [hE, hex.1] at h8; omega) | (have h8 := h9.2.2; rw [hV, hex.2] at h8; omega) | (have h8 := h9.2.1; rw [hE, hex.1, dgt_iff.mpr ⟨by omega, by omega, by omega⟩] at h8; cases h8)), (by first | assumption | omega | trivial | decide +kernel), (by first | assumption | omega | trivial | decide +kernel)⟩)) dX9_number_68
          ·
            have d57 : ((k : Nat) : Int) ≠ (0 : Int) := my_ne c57 (nI_toInt (by omega)) (by decide +kernel)
            refine lv_aload_n hx hb dX9_number_60 rfl (lv_at hl 2 rfl) ?_
            refine my_gpI (my_pV (As := []) (rest := []) (ci := 9) ⟨hx, hb, hml, hown, hts⟩ (cwV 0 hts gX9_number_X9_isDigit rfl rfl rfl (by decide +kernel) ⟨Nat.le_of_ble_eq_true rfl, Nat.le_of_ble_eq_true rfl⟩) hN hK hP [0, 1] rfl 0 rfl rfl rfl rfl hl.1 rfl (Nat.le_of_ble_eq_true rfl) dX9_number_61 ⟨Nat.le_of_ble_eq_true rfl, Nat.le_of_ble_eq_true rfl⟩  (k_X9_isDigit l D cI cJ cK m0 a_row a_tape a_number a_read a_readBits a_stands a_parted a_bitsWere a_stood a_chosen a_bestChosen a_often a_sorted a_risen a_risenWays m_thrown m_told m_taped m0_at_6 m_to m_many m_readMany m_fewest m_size mt (by first | assumption | omega | decide +kernel) (by first | assumption | omega | decide +kernel) (by first | assumption | omega | decide +kernel) (by first | assumption | omega | decide +kernel) (by first | assumption | omega | decide +kernel) (by first | assumption | omega | decide +kernel) (by first | assumption | omega | decide +kernel) hR_mt)) (fun r hp => ?_)
            rcases hp with ⟨rfl, ha_18, hb_19, hc_20⟩ | ⟨rfl, ho_21⟩
            ·
              refine lv_if_eq (tgt := 69) hx hb dX9_number_64 (by decide) (fun c64 => ?_) (fun c64 => ?_)
              ·
                exact absurd c64 (by decide +kernel)
              ·
                refine lv_iconst (v := (-1)) hx hb dX9_number_67 (by decide +kernel) ?_
                exact my_retI hx hb hr hlocks hK hS (wl_k_X9_number cI cJ cK m0 a_row a_tape a_number a_read a_readBits a_stands a_parted a_bitsWere a_stood a_chosen a_bestChosen a_often a_sorted a_risen a_risenWays m_thrown (nI m_told) (nI m_taped) (nI m0_at_6) (nI m_to) (nI m_many) (nI m_readMany) m_fewest (nI m_size) mt) hP hD (Or.inr (⟨m0_at_6, rfl, rfl, (by first | assumption | omega | trivial | decide +kernel), (by intro h9; first | (have h8 := h9.1; rw [hE, hex.1] at h8; omega) | (have h8 := h9.2.2; rw [hV, hex.2] at h8; omega) | (have h8 := h9.2.1; rw [hE, hex.1, dgt_iff.mpr ⟨by omega, by omega, by omega⟩] at h8; cases h8)), (by first | assumption | omega | trivial | decide +kernel), (by first | assumption | omega | trivial | decide +kernel)⟩)) dX9_number_68
            ·
              refine lv_if_eq (tgt := 69) hx hb dX9_number_64 (by decide) (fun c64 => ?_) (fun c64 => ?_)
              ·
                refine lv_iload hx hb dX9_number_69 (lv_at hl 1 rfl) ?_
                refine lv_i2l (v := lN v) hx hb dX9_number_71 (nI_l (by omega)) ?_
                refine lv_iload_n hx hb dX9_number_72 rfl (lv_at hl 4 rfl) ?_
                refine lv_i2l (v := lN lo) hx hb dX9_number_73 (nI_l (by omega)) ?_
                refine lv_iload_n hx hb dX9_number_74 rfl (lv_at hl 5 rfl) ?_
                refine lv_i2l (v := lN hi) hx hb dX9_number_75 (nI_l (by omega)) ?_
                refine my_gpI (my_pS (As := [.long (lN v), .long (lN lo), .long (lN hi)]) (rest := []) ⟨hx, hb, hml, hown, hts⟩ (va_cwS 3 hts gX9_number_X9_in rfl rfl rfl (by decide +kernel) ⟨Nat.le_of_ble_eq_true rfl, Nat.le_of_ble_eq_true rfl⟩) hN hK hP [] rfl rfl hl.1 rfl (Nat.le_of_ble_eq_true rfl) dX9_number_76 ⟨Nat.le_of_ble_eq_true rfl, Nat.le_of_ble_eq_true rfl⟩  (k_X9_in l D cI cJ cK (lN v) (lN lo) (lN hi) ((v : Nat) : Int) (lN_toInt (by omega)) ((lo : Nat) : Int) (lN_toInt (by omega)) ((hi : Nat) : Int) (lN_toInt (by omega)))) (fun r hp => ?_)
                rcases hp with ⟨rfl, ha_22, hb_23⟩ | ⟨rfl, ho_24⟩
                ·
                  refine lv_if_ne (tgt := 94) hx hb dX9_number_79 (by decide) (fun c79 => ?_) (fun c79 => ?_)
                  ·
                    refine lv_iload hx hb dX9_number_94 (lv_at hl 1 rfl) ?_
                    exact my_retI hx hb hr hlocks hK hS (wl_k_X9_number cI cJ cK m0 a_row a_tape a_number a_read a_readBits a_stands a_parted a_bitsWere a_stood a_chosen a_bestChosen a_often a_sorted a_risen a_risenWays m_thrown (nI m_told) (nI m_taped) (nI m0_at_6) (nI m_to) (nI m_many) (nI m_readMany) m_fewest (nI m_size) mt) hP hD (Or.inl ⟨v, m0_at_6, rfl, rfl, (by first | assumption | omega | trivial | decide +kernel), ⟨by rw [hE, hex.1]; omega, by rw [hE, hex.1]; exact dgt_no (by omega), by rw [hV, hex.2]; omega, by rw [hV, hex.2]; omega⟩, (by rw [hV, hex.2]), (by rw [hE, hex.1]), (by first | assumption | omega | trivial | decide +kernel), (by first | assumption | omega | trivial | decide +kernel), (by first | assumption | omega | trivial | decide +kernel), (by first | assumption | omega | trivial | decide +kernel)⟩) dX9_number_96
                  ·
                    exact absurd c79 (by decide +kernel)
                ·
                  refine lv_if_ne (tgt := 94) hx hb dX9_number_79 (by decide) (fun c79 => ?_) (fun c79 => ?_)
                  ·
                    exact absurd c79 (by decide +kernel)
                  ·
                    refine lv_aload_n hx hb dX9_number_82 rfl (lv_at hl 2 rfl) ?_
                    refine lv_dup hx hb dX9_number_83 rfl ?_
                    refine va_get (ci := 9) (v := .int (nI m0_at_6)) (C := RX9) (T := TX9) (N := 24) hx hb hts hi9 hown hK hP 0 rfl rfl 5 (by decide) fl28 (fun _ h9 => h9) rfl dX9_number_84 ?_
                    refine lv_iconst (v := 1) hx hb dX9_number_87 (by decide +kernel) ?_
                    refine lv_isub hx hb dX9_number_88 ?_
                    refine lv_topi (fun z_25 ez_25 => ?_)
                    try have tz_25 : z_25.toInt = ((m0_at_6 : Nat) : Int) - (1 : Int) := by rw [ez_25]; exact my_subI (nI_toInt (by omega)) (by decide +kernel) (by omega) (by omega)
                    obtain ⟨w_26, ew_26, hw_26⟩ : ∃ w : Nat, z_25 = nI w ∧ (w : Int) = (z_25 : Int32).toInt := my_natE (by omega)
                    refine my_eqi (y := nI w_26) ew_26 ?_
                    refine va_put (ci := 9) (v := .int (nI w_26)) (ty := (.int)) (C := RX9) (T := TX9) (N := 24) hx hb hts hi9 tyX9 tyX9_ok nmX9 hown hK hP hD hS 0 rfl rfl 5 (by decide) fl28 (fun _ h9 => h9) rfl (by decide +kernel) rfl rfl (Nat.le_of_ble_eq_true rfl) dX9_number_89 (fun H locs hP hD hS => ?_)
                    have hP : va_P D vwCl (wl_k_X9_number cI cJ cK m0 a_row a_tape a_number a_read a_readBits a_stands a_parted a_bitsWere a_stood a_chosen a_bestChosen a_often a_sorted a_risen a_risenWays m_thrown (nI m_told) (nI m_taped) (nI w_26) (nI m_to) (nI m_many) (nI m_readMany) m_fewest (nI m_size) mt) H := hP
                    have hD : va_D A (wl_k_X9_number cI cJ cK m0 a_row a_tape a_number a_read a_readBits a_stands a_parted a_bitsWere a_stood a_chosen a_bestChosen a_often a_sorted a_risen a_risenWays m_thrown (nI m_told) (nI m_taped) (nI w_26) (nI m_to) (nI m_many) (nI m_readMany) m_fewest (nI m_size) mt) := hD
                    refine lv_iconst (v := (-1)) hx hb dX9_number_92 (by decide +kernel) ?_
                    exact my_retI hx hb hr hlocks hK hS (wl_k_X9_number cI cJ cK m0 a_row a_tape a_number a_read a_readBits a_stands a_parted a_bitsWere a_stood a_chosen a_bestChosen a_often a_sorted a_risen a_risenWays m_thrown (nI m_told) (nI m_taped) (nI w_26) (nI m_to) (nI m_many) (nI m_readMany) m_fewest (nI m_size) mt) hP hD (Or.inr (⟨w_26, rfl, rfl, (by first | assumption | omega | trivial | decide +kernel), (by intro h9; first | (have h8 := h9.1; rw [hE, hex.1] at h8; omega) | (have h8 := h9.2.2; rw [hV, hex.2] at h8; omega) | (have h8 := h9.2.1; rw [hE, hex.1, dgt_iff.mpr ⟨by omega, by omega, by omega⟩] at h8; cases h8)), (by first | assumption | omega | trivial | decide +kernel), (by first | assumption | omega | trivial | decide +kernel)⟩)) dX9_number_93
              ·
                exact absurd c64 (by decide +kernel)
        ·
          exact absurd c10 (by decide +kernel)
  exact loop6 ((3 - 0) + 1) 0 0 m_at (Nat.lt_succ_self _) (by first | assumption | omega | decide +kernel) (by first | assumption | omega | decide +kernel) (by first | assumption | omega | decide +kernel) (by first | assumption | omega | decide +kernel) (by first | assumption | omega | decide +kernel) (by decide) (rfl) (rfl) (by first | assumption | omega | decide +kernel) _ _ ls hP hD hS (lv_sub hl [0, 1, 2, 3, 4, 5] rfl)
set_option maxHeartbeats 4000000 in
set_option maxRecDepth 100000 in
theorem k_X9_isNumber (l : Launch) (D : va_G) (cI cJ cK : ClassId) (v9 : Int32) : cpI l yX9_isNumber wsX9_isNumber ({ frames := 1, cells := 0, slots := 0, locals := 60 } : Room) D (tyIJ cI cJ cK) [.int v9] [] (fun (r : Int32) => (∃ (k : Nat), r = 1 ∧ v9 = nI k ∧ k ≤ 255) ∨ (r = 0 ∧ (v9.toInt < 0 ∨ 255 < v9.toInt))) := by
  refine cpI.of (cc := cX9_isNumber) (maxL := 1) (ret := (some .boolean)) (by decide) rfl (Nat.le_of_ble_eq_true rfl) ?_
  intro p e s m below meth c ls hx hb hr hts hown hml hlocks hname hK hN hP hl
  have hl : lv_has ls 1 [(0, .int v9)] := hl
  have hown : s.vm.findClass RX9 = some m.cls := hown
  refine lv_iload_n hx hb dX9_isNumber_0 rfl (lv_at hl 0 rfl) ?_
  refine lv_i2l (v := v9.toInt64) hx hb dX9_isNumber_1 rfl ?_
  refine lv_lconst (v := 0) hx hb dX9_isNumber_2 (by decide +kernel) ?_
  refine lv_ldc2 (v := 255) hx hb hown (hts (.constantLong RX9 91 (255)) (by decide +kernel)) dX9_isNumber_3 ?_
  refine my_gpI (my_pS (As := [.long v9.toInt64, .long 0, .long 255]) (rest := []) ⟨hx, hb, hml, hown, hts⟩ (va_cwS 3 hts gX9_isNumber_X9_in rfl rfl rfl (by decide +kernel) ⟨Nat.le_of_ble_eq_true rfl, Nat.le_of_ble_eq_true rfl⟩) hN hK hP [] rfl rfl hl.1 rfl (Nat.le_of_ble_eq_true rfl) dX9_isNumber_6 ⟨Nat.le_of_ble_eq_true rfl, Nat.le_of_ble_eq_true rfl⟩  (k_X9_in l D cI cJ cK v9.toInt64 (0 : Int64) (255 : Int64) v9.toInt (Int32.toInt_toInt64 _) (0 : Int) (by decide +kernel) (255 : Int) (by decide +kernel))) (fun r hp => ?_)
  rcases hp with ⟨rfl, ha_1, hb_2⟩ | ⟨rfl, ho_3⟩
  ·
    exact my_rpZ hx hb hr hlocks (by decide +kernel) (Or.inl ⟨v9.toInt.toNat, rfl, (my_nat (by omega)), (by first | assumption | omega | trivial | decide +kernel)⟩) dX9_isNumber_9
  ·
    exact my_rpZ hx hb hr hlocks (by decide +kernel) (Or.inr (⟨rfl, (by first | assumption | omega | trivial | decide +kernel)⟩)) dX9_isNumber_9
set_option maxHeartbeats 4000000 in
set_option maxRecDepth 100000 in
theorem k_X9_isPlace (l : Launch) (D : va_G) (cI cJ cK : ClassId) (m0 : Nat) (a_row : Nat) (a_tape : Nat) (a_number : Nat) (a_read : Nat) (a_readBits : Nat) (a_stands : Nat) (a_parted : Nat) (a_bitsWere : Nat) (a_stood : Nat) (a_chosen : Nat) (a_bestChosen : Nat) (a_often : Nat) (a_sorted : Nat) (a_risen : Nat) (a_risenWays : Nat) (m_thrown : Int32) (m_told : Nat) (m_taped : Nat) (m_at : Nat) (m_to : Nat) (m_many : Nat) (m_readMany : Nat) (m_fewest : Int32) (m_size : Nat) (p9 : Int32) (hz_m_told : m_told ≤ 64) (hz_m_taped : m_taped ≤ 100) (hz_m_at : m_at ≤ 100) (hz_m_to : m_to ≤ 100) (hz_m_many : m_many ≤ 64) (hz_m_readMany : m_readMany ≤ 64) (hz_m_size : m_size ≤ 64) : cpI l yX9_isPlace wsX9_isPlace ({ frames := 1, cells := 0, slots := 0, locals := 60 } : Room) D (tyIJ cI cJ cK) [.ref m0, .int p9] [(m0, .inr (9, [.int m_thrown, .int (nI m_told), .ref a_row, .ref a_tape, .int (nI m_taped), .int (nI m_at), .int (nI m_to), .int (nI m_many), .ref a_number, .ref a_read, .int (nI m_readMany), .ref a_readBits, .ref a_stands, .ref a_parted, .ref a_bitsWere, .ref a_stood, .ref a_chosen, .ref a_bestChosen, .int m_fewest, .ref a_often, .ref a_sorted, .int (nI m_size), .ref a_risen, .ref a_risenWays]))] (fun (r : Int32) => (∃ (k : Nat), r = 1 ∧ p9 = nI k ∧ k < m_many) ∨ (r = 0 ∧ (p9.toInt < 0 ∨ m_many ≤ p9.toInt))) := by
  refine cpI.of (cc := cX9_isPlace) (maxL := 2) (ret := (some .boolean)) (by decide) rfl (Nat.le_of_ble_eq_true rfl) ?_
  intro p e s m below meth c ls hx hb hr hts hown hml hlocks hname hK hN hP hl
  have hl : lv_has ls 2 [(0, .ref m0), (1, .int p9)] := hl
  have hown : s.vm.findClass RX9 = some m.cls := hown
  have hi9 : ∀ w ∈ u_ws RX9 TX9 24, w ∈ wsX9_isPlace := by decide +kernel
  have fl88 := hts (.fieldLink RX9 88 "PlaneColumnModel" "many" "I") (by decide +kernel)
  refine lv_iload_n hx hb dX9_isPlace_0 rfl (lv_at hl 1 rfl) ?_
  refine lv_i2l (v := p9.toInt64) hx hb dX9_isPlace_1 rfl ?_
  refine lv_lconst (v := 0) hx hb dX9_isPlace_2 (by decide +kernel) ?_
  refine lv_aload_n hx hb dX9_isPlace_3 rfl (lv_at hl 0 rfl) ?_
  refine va_get (ci := 9) (v := .int (nI m_many)) (C := RX9) (T := TX9) (N := 24) hx hb hts hi9 hown hK hP 0 rfl rfl 7 (by decide) fl88 (fun _ h9 => h9) rfl dX9_isPlace_4 ?_
  refine lv_iconst (v := 1) hx hb dX9_isPlace_7 (by decide +kernel) ?_
  refine lv_isub hx hb dX9_isPlace_8 ?_
  refine lv_topi (fun z_1 ez_1 => ?_)
  try have tz_1 : z_1.toInt = ((m_many : Nat) : Int) - (1 : Int) := by rw [ez_1]; exact my_subI (nI_toInt (by omega)) (by decide +kernel) (by omega) (by omega)
  refine lv_i2l (v := z_1.toInt64) hx hb dX9_isPlace_9 rfl ?_
  refine my_gpI (my_pS (As := [.long p9.toInt64, .long 0, .long z_1.toInt64]) (rest := []) ⟨hx, hb, hml, hown, hts⟩ (va_cwS 3 hts gX9_isPlace_X9_in rfl rfl rfl (by decide +kernel) ⟨Nat.le_of_ble_eq_true rfl, Nat.le_of_ble_eq_true rfl⟩) hN hK hP [] rfl rfl hl.1 rfl (Nat.le_of_ble_eq_true rfl) dX9_isPlace_10 ⟨Nat.le_of_ble_eq_true rfl, Nat.le_of_ble_eq_true rfl⟩  (k_X9_in l D cI cJ cK p9.toInt64 (0 : Int64) z_1.toInt64 p9.toInt (Int32.toInt_toInt64 _) (0 : Int) (by decide +kernel) z_1.toInt (Int32.toInt_toInt64 _))) (fun r hp => ?_)
  rcases hp with ⟨rfl, ha_2, hb_3⟩ | ⟨rfl, ho_4⟩
  ·
    exact my_rpZ hx hb hr hlocks (by decide +kernel) (Or.inl ⟨p9.toInt.toNat, rfl, (my_nat (by omega)), (by first | assumption | omega | trivial | decide +kernel)⟩) dX9_isPlace_13
  ·
    exact my_rpZ hx hb hr hlocks (by decide +kernel) (Or.inr (⟨rfl, (by first | assumption | omega | trivial | decide +kernel)⟩)) dX9_isPlace_13
set_option maxHeartbeats 4000000 in
set_option maxRecDepth 100000 in
theorem k_X9_isSpan (l : Launch) (D : va_G) (cI cJ cK : ClassId) (m0 : Nat) (a_row : Nat) (a_tape : Nat) (a_number : Nat) (a_read : Nat) (a_readBits : Nat) (a_stands : Nat) (a_parted : Nat) (a_bitsWere : Nat) (a_stood : Nat) (a_chosen : Nat) (a_bestChosen : Nat) (a_often : Nat) (a_sorted : Nat) (a_risen : Nat) (a_risenWays : Nat) (m_thrown : Int32) (m_told : Nat) (m_taped : Nat) (m_at : Nat) (m_to : Nat) (m_many : Nat) (m_readMany : Nat) (m_fewest : Int32) (m_size : Nat) (l9 : Int32) (r9 : Int32) (hz_m_told : m_told ≤ 64) (hz_m_taped : m_taped ≤ 100) (hz_m_at : m_at ≤ 100) (hz_m_to : m_to ≤ 100) (hz_m_many : m_many ≤ 64) (hz_m_readMany : m_readMany ≤ 64) (hz_m_size : m_size ≤ 64) : cpI l yX9_isSpan wsX9_isSpan ({ frames := 0, cells := 0, slots := 0, locals := 0 } : Room) D (tyIJ cI cJ cK) [.ref m0, .int l9, .int r9] [(m0, .inr (9, [.int m_thrown, .int (nI m_told), .ref a_row, .ref a_tape, .int (nI m_taped), .int (nI m_at), .int (nI m_to), .int (nI m_many), .ref a_number, .ref a_read, .int (nI m_readMany), .ref a_readBits, .ref a_stands, .ref a_parted, .ref a_bitsWere, .ref a_stood, .ref a_chosen, .ref a_bestChosen, .int m_fewest, .ref a_often, .ref a_sorted, .int (nI m_size), .ref a_risen, .ref a_risenWays]))] (fun (r : Int32) => (∃ (a : Nat) (b : Nat), r = 1 ∧ l9 = nI a ∧ r9 = nI b ∧ a ≤ b ∧ b ≤ m_many) ∨ (r = 0 ∧ (l9.toInt < 0 ∨ r9.toInt < l9.toInt ∨ m_many < r9.toInt))) := by
  refine cpI.of (cc := cX9_isSpan) (maxL := 3) (ret := (some .boolean)) (by decide) rfl (Nat.le_of_ble_eq_true rfl) ?_
  intro p e s m below meth c ls hx hb hr hts hown hml hlocks hname hK hN hP hl
  have hl : lv_has ls 3 [(0, .ref m0), (1, .int l9), (2, .int r9)] := hl
  have hown : s.vm.findClass RX9 = some m.cls := hown
  have hi9 : ∀ w ∈ u_ws RX9 TX9 24, w ∈ wsX9_isSpan := by decide +kernel
  have fl88 := hts (.fieldLink RX9 88 "PlaneColumnModel" "many" "I") (by decide +kernel)
  refine lv_iload_n hx hb dX9_isSpan_0 rfl (lv_at hl 1 rfl) ?_
  refine lv_if_lt (tgt := 21) hx hb dX9_isSpan_1 (by decide) (fun c1 => ?_) (fun c1 => ?_)
  ·
    have d1 : l9.toInt < (0 : Int) := my_lt c1 rfl (by decide +kernel)
    refine lv_iconst (v := 0) hx hb dX9_isSpan_21 (by decide +kernel) ?_
    exact my_rpZ hx hb hr hlocks (by decide +kernel) (Or.inr (⟨rfl, (by first | assumption | omega | trivial | decide +kernel)⟩)) dX9_isSpan_22
  ·
    have d1 : l9.toInt ≥ (0 : Int) := my_nlt c1 rfl (by decide +kernel)
    refine lv_iload_n hx hb dX9_isSpan_4 rfl (lv_at hl 1 rfl) ?_
    refine lv_iload_n hx hb dX9_isSpan_5 rfl (lv_at hl 2 rfl) ?_
    refine lv_icmp_gt (tgt := 21) hx hb dX9_isSpan_6 (by decide) (fun c6 => ?_) (fun c6 => ?_)
    ·
      have d6 : l9.toInt > r9.toInt := my_gt c6 rfl rfl
      refine lv_iconst (v := 0) hx hb dX9_isSpan_21 (by decide +kernel) ?_
      exact my_rpZ hx hb hr hlocks (by decide +kernel) (Or.inr (⟨rfl, (by first | assumption | omega | trivial | decide +kernel)⟩)) dX9_isSpan_22
    ·
      have d6 : l9.toInt ≤ r9.toInt := my_ngt c6 rfl rfl
      refine lv_iload_n hx hb dX9_isSpan_9 rfl (lv_at hl 2 rfl) ?_
      refine lv_aload_n hx hb dX9_isSpan_10 rfl (lv_at hl 0 rfl) ?_
      refine va_get (ci := 9) (v := .int (nI m_many)) (C := RX9) (T := TX9) (N := 24) hx hb hts hi9 hown hK hP 0 rfl rfl 7 (by decide) fl88 (fun _ h9 => h9) rfl dX9_isSpan_11 ?_
      refine lv_icmp_gt (tgt := 21) hx hb dX9_isSpan_14 (by decide) (fun c14 => ?_) (fun c14 => ?_)
      ·
        have d14 : r9.toInt > ((m_many : Nat) : Int) := my_gt c14 rfl (nI_toInt (by omega))
        refine lv_iconst (v := 0) hx hb dX9_isSpan_21 (by decide +kernel) ?_
        exact my_rpZ hx hb hr hlocks (by decide +kernel) (Or.inr (⟨rfl, (by first | assumption | omega | trivial | decide +kernel)⟩)) dX9_isSpan_22
      ·
        have d14 : r9.toInt ≤ ((m_many : Nat) : Int) := my_ngt c14 rfl (nI_toInt (by omega))
        refine lv_iconst (v := 1) hx hb dX9_isSpan_17 (by decide +kernel) ?_
        refine lv_goto (tgt := 22) hx hb dX9_isSpan_18 (by decide) ?_
        exact my_rpZ hx hb hr hlocks (by decide +kernel) (Or.inl ⟨l9.toInt.toNat, r9.toInt.toNat, rfl, (my_nat (by omega)), (my_nat (by omega)), (by first | assumption | omega | trivial | decide +kernel), (by first | assumption | omega | trivial | decide +kernel)⟩) dX9_isSpan_22
abbrev wl_k_X9_becomesRead (cI cJ cK : ClassId) (m0 : Nat) (a_row : Nat) (a_tape : Nat) (a_number : Nat) (a_read : Nat) (a_readBits : Nat) (a_stands : Nat) (a_parted : Nat) (a_bitsWere : Nat) (a_stood : Nat) (a_chosen : Nat) (a_bestChosen : Nat) (a_often : Nat) (a_sorted : Nat) (a_risen : Nat) (a_risenWays : Nat) (v0_ : Int32) (v1_ : Int32) (v2_ : Int32) (v3_ : Int32) (v4_ : Int32) (v5_ : Int32) (v6_ : Int32) (v7_ : Int32) (v8_ : Int32) (v9_ : Nat → Int32) (v10_ : Nat → Int32) : va_W := [(m0, .inr (9, [.int v0_, .int v1_, .ref a_row, .ref a_tape, .int v2_, .int v3_, .int v4_, .int v5_, .ref a_number, .ref a_read, .int v6_, .ref a_readBits, .ref a_stands, .ref a_parted, .ref a_bitsWere, .ref a_stood, .ref a_chosen, .ref a_bestChosen, .int v7_, .ref a_often, .ref a_sorted, .int v8_, .ref a_risen, .ref a_risenWays])), (a_number, .inl (cI, 64, .inl v9_)), (a_read, .inl (cI, 64, .inl v10_))]
set_option maxHeartbeats 4000000 in
set_option maxRecDepth 100000 in
theorem k_X9_becomesRead (l : Launch) (D : va_G) (cI cJ cK : ClassId) (m0 : Nat) (a_row : Nat) (a_tape : Nat) (a_number : Nat) (a_read : Nat) (a_readBits : Nat) (a_stands : Nat) (a_parted : Nat) (a_bitsWere : Nat) (a_stood : Nat) (a_chosen : Nat) (a_bestChosen : Nat) (a_often : Nat) (a_sorted : Nat) (a_risen : Nat) (a_risenWays : Nat) (m_thrown : Int32) (m_told : Nat) (m_taped : Nat) (m_at : Nat) (m_to : Nat) (m_many : Nat) (m_readMany : Nat) (m_fewest : Int32) (m_size : Nat) (mn : Nat → Int32) (md : Nat → Int32) (hz_m_told : m_told ≤ 64) (hz_m_taped : m_taped ≤ 100) (hz_m_at : m_at ≤ 100) (hz_m_to : m_to ≤ 100) (hz_m_many : m_many ≤ 64) (hz_m_readMany : m_readMany ≤ 64) (hz_m_size : m_size ≤ 64) (hR_mn : RB 0 255 mn) (hR_md : RB 0 255 md) : ctV l yX9_becomesRead wsX9_becomesRead ({ frames := 0, cells := 0, slots := 0, locals := 0 } : Room) D (tyIJ cI cJ cK) [.ref m0] (wl_k_X9_becomesRead cI cJ cK m0 a_row a_tape a_number a_read a_readBits a_stands a_parted a_bitsWere a_stood a_chosen a_bestChosen a_often a_sorted a_risen a_risenWays m_thrown (nI m_told) (nI m_taped) (nI m_at) (nI m_to) (nI m_many) (nI m_readMany) m_fewest (nI m_size) mn md) (fun (u : va_W) => ∃ (m_many' : Nat) (mn' : Nat → Int32), u = (wl_k_X9_becomesRead cI cJ cK m0 a_row a_tape a_number a_read a_readBits a_stands a_parted a_bitsWere a_stood a_chosen a_bestChosen a_often a_sorted a_risen a_risenWays m_thrown (nI m_told) (nI m_taped) (nI m_at) (nI m_to) (nI m_many') (nI m_readMany) m_fewest (nI m_size) mn' md) ∧ m_many' ≤ 64 ∧ RB 0 255 mn' ∧ m_many' = m_readMany ∧ (∀ j, j < m_readMany → mn' j = md j)) := by
  refine ctV.of (cc := cX9_becomesRead) (maxL := 2) (ret := none) (by decide) rfl (Nat.le_of_ble_eq_true rfl) ?_
  intro p e s m below meth c ls A hx hb hr hts hown hml hlocks hname hA hK hN hP hD hS hl
  have hl : lv_has ls 2 [(0, .ref m0)] := hl
  have hown : s.vm.findClass RX9 = some m.cls := hown
  have hi9 : ∀ w ∈ u_ws RX9 TX9 24, w ∈ wsX9_becomesRead := by decide +kernel
  have fl49 := hts (.fieldLink RX9 49 "PlaneColumnModel" "number" "[I") (by decide +kernel)
  have fl52 := hts (.fieldLink RX9 52 "PlaneColumnModel" "read" "[I") (by decide +kernel)
  have fl88 := hts (.fieldLink RX9 88 "PlaneColumnModel" "many" "I") (by decide +kernel)
  have fl93 := hts (.fieldLink RX9 93 "PlaneColumnModel" "readMany" "I") (by decide +kernel)
  refine lv_aload_n hx hb dX9_becomesRead_0 rfl (lv_at hl 0 rfl) ?_
  refine lv_aload_n hx hb dX9_becomesRead_1 rfl (lv_at hl 0 rfl) ?_
  refine va_get (ci := 9) (v := .int (nI m_readMany)) (C := RX9) (T := TX9) (N := 24) hx hb hts hi9 hown hK hP 0 rfl rfl 10 (by decide) fl93 (fun _ h9 => h9) rfl dX9_becomesRead_2 ?_
  refine va_put (ci := 9) (v := .int (nI m_readMany)) (ty := (.int)) (C := RX9) (T := TX9) (N := 24) hx hb hts hi9 tyX9 tyX9_ok nmX9 hown hK hP hD hS 0 rfl rfl 7 (by decide) fl88 (fun _ h9 => h9) rfl (by decide +kernel) rfl rfl (Nat.le_of_ble_eq_true rfl) dX9_becomesRead_5 (fun H locs hP hD hS => ?_)
  have hP : va_P D vwCl (wl_k_X9_becomesRead cI cJ cK m0 a_row a_tape a_number a_read a_readBits a_stands a_parted a_bitsWere a_stood a_chosen a_bestChosen a_often a_sorted a_risen a_risenWays m_thrown (nI m_told) (nI m_taped) (nI m_at) (nI m_to) (nI m_readMany) (nI m_readMany) m_fewest (nI m_size) mn md) H := hP
  have hD : va_D A (wl_k_X9_becomesRead cI cJ cK m0 a_row a_tape a_number a_read a_readBits a_stands a_parted a_bitsWere a_stood a_chosen a_bestChosen a_often a_sorted a_risen a_risenWays m_thrown (nI m_told) (nI m_taped) (nI m_at) (nI m_to) (nI m_readMany) (nI m_readMany) m_fewest (nI m_size) mn md) := hD
  refine lv_iconst (v := 0) hx hb dX9_becomesRead_8 (by decide +kernel) ?_
  refine lv_istore_n (lv' := [(1, .int 0), (0, .ref m0)]) hx hb dX9_becomesRead_9 rfl hl (by decide) rfl (fun ls hl => ?_)
  have loop10 : ∀ (n9 : Nat) (k : Nat) (a_number_10 : Nat → Int32), 64 - k < n9 → (k ≤ 64) → (k ≤ m_readMany) → (∀ j, j < k → a_number_10 j = md j) → (RB 0 255 a_number_10) → ∀ (H : Heap) (locs : List Loc) (ls : Array Slot), va_P D vwCl (wl_k_X9_becomesRead cI cJ cK m0 a_row a_tape a_number a_read a_readBits a_stands a_parted a_bitsWere a_stood a_chosen a_bestChosen a_often a_sorted a_risen a_risenWays m_thrown (nI m_told) (nI m_taped) (nI m_at) (nI m_to) (nI m_readMany) (nI m_readMany) m_fewest (nI m_size) a_number_10 md) H → va_D A (wl_k_X9_becomesRead cI cJ cK m0 a_row a_tape a_number a_read a_readBits a_stands a_parted a_bitsWere a_stood a_chosen a_bestChosen a_often a_sorted a_risen a_risenWays m_thrown (nI m_told) (nI m_taped) (nI m_at) (nI m_to) (nI m_readMany) (nI m_readMany) m_fewest (nI m_size) a_number_10 md) → va_S A s.heap H locs → lv_has ls 2 [(1, .int (nI k)), (0, .ref m0)] → W p l e ({ frames := 0, cells := 0, slots := 0, locals := 0 } : Room) s m [.ref m0].toArray below meth c H locs 0 0 (MQ below (va_Qv (fun (u : va_W) => ∃ (m_many' : Nat) (mn' : Nat → Int32), u = (wl_k_X9_becomesRead cI cJ cK m0 a_row a_tape a_number a_read a_readBits a_stands a_parted a_bitsWere a_stood a_chosen a_bestChosen a_often a_sorted a_risen a_risenWays m_thrown (nI m_told) (nI m_taped) (nI m_at) (nI m_to) (nI m_many') (nI m_readMany) m_fewest (nI m_size) mn' md) ∧ m_many' ≤ 64 ∧ RB 0 255 mn' ∧ m_many' = m_readMany ∧ (∀ j, j < m_readMany → mn' j = md j)) (my_B D (tyIJ cI cJ cK) A) A) [.ref m0].toArray s 0 0 A) (F0 m 10 ls []) := by
    intro n9
    induction n9 with
    | zero =>
      intro k a_number_10 hn9
      exact absurd hn9 (Nat.not_lt_zero _)
    | succ n9 ih10 =>
      intro k a_number_10 hn9 hk_k hkm hcp hR_a_number_10 H locs ls hP hD hS hl
      refine lv_iload_n hx hb dX9_becomesRead_10 rfl (lv_at hl 0 rfl) ?_
      refine lv_aload_n hx hb dX9_becomesRead_11 rfl (lv_at hl 1 rfl) ?_
      refine va_get (ci := 9) (v := .int (nI m_readMany)) (C := RX9) (T := TX9) (N := 24) hx hb hts hi9 hown hK hP 0 rfl rfl 7 (by decide) fl88 (fun _ h9 => h9) rfl dX9_becomesRead_12 ?_
      refine lv_icmp_ge (tgt := 36) hx hb dX9_becomesRead_15 (by decide) (fun c15 => ?_) (fun c15 => ?_)
      ·
        have d15 : ((k : Nat) : Int) ≥ ((m_readMany : Nat) : Int) := my_ge c15 (nI_toInt (by omega)) (nI_toInt (by omega))
        exact my_retV hx hb hr hlocks hK hS (wl_k_X9_becomesRead cI cJ cK m0 a_row a_tape a_number a_read a_readBits a_stands a_parted a_bitsWere a_stood a_chosen a_bestChosen a_often a_sorted a_risen a_risenWays m_thrown (nI m_told) (nI m_taped) (nI m_at) (nI m_to) (nI m_readMany) (nI m_readMany) m_fewest (nI m_size) a_number_10 md) hP hD (⟨m_readMany, a_number_10, rfl, (by first | assumption | omega | trivial | decide +kernel), hR_a_number_10, (by first | assumption | omega | trivial | decide +kernel), (fun j h => hcp j (by omega))⟩) dX9_becomesRead_36
      ·
        have d15 : ((k : Nat) : Int) < ((m_readMany : Nat) : Int) := my_nge c15 (nI_toInt (by omega)) (nI_toInt (by omega))
        refine lv_aload_n hx hb dX9_becomesRead_18 rfl (lv_at hl 1 rfl) ?_
        refine va_get (ci := 9) (v := .ref a_number) (C := RX9) (T := TX9) (N := 24) hx hb hts hi9 hown hK hP 0 rfl rfl 8 (by decide) fl49 (fun _ h9 => h9) rfl dX9_becomesRead_19 ?_
        refine lv_iload_n hx hb dX9_becomesRead_22 rfl (lv_at hl 0 rfl) ?_
        refine lv_aload_n hx hb dX9_becomesRead_23 rfl (lv_at hl 1 rfl) ?_
        refine va_get (ci := 9) (v := .ref a_read) (C := RX9) (T := TX9) (N := 24) hx hb hts hi9 hown hK hP 0 rfl rfl 9 (by decide) fl52 (fun _ h9 => h9) rfl dX9_becomesRead_24 ?_
        refine lv_iload_n hx hb dX9_becomesRead_27 rfl (lv_at hl 0 rfl) ?_
        refine va_iald hx hb hK hP 2 0 rfl rfl (vp_in_nI (by omega) (by omega)) dX9_becomesRead_28 ?_
        refine my_eqi (y := md k) (congrArg md (nI_clamp (by omega))) ?_
        have hb_1 := hR_md k
        refine va_iast hx hb hK hP hD hS 1 0 rfl rfl (vp_in_nI (by omega) (by omega)) dX9_becomesRead_29 (fun H locs hP hD hS => ?_)
        obtain ⟨g_2, eg_2⟩ : ∃ g : Nat → Int32, g = upd a_number_10 k (md k) := ⟨_, rfl⟩
        have eU : upd a_number_10 (nI k : Int32).toNatClampNeg (md k) = g_2 := by rw [eg_2, show (nI k : Int32).toNatClampNeg = k from nI_clamp (by omega)]
        rw [eU] at hP hD
        have hR_g_2 : RB 0 255 g_2 := by rw [eg_2]; exact hR_a_number_10.upd rfl (by omega) (by omega)
        have hP : va_P D vwCl (wl_k_X9_becomesRead cI cJ cK m0 a_row a_tape a_number a_read a_readBits a_stands a_parted a_bitsWere a_stood a_chosen a_bestChosen a_often a_sorted a_risen a_risenWays m_thrown (nI m_told) (nI m_taped) (nI m_at) (nI m_to) (nI m_readMany) (nI m_readMany) m_fewest (nI m_size) g_2 md) H := hP
        have hD : va_D A (wl_k_X9_becomesRead cI cJ cK m0 a_row a_tape a_number a_read a_readBits a_stands a_parted a_bitsWere a_stood a_chosen a_bestChosen a_often a_sorted a_risen a_risenWays m_thrown (nI m_told) (nI m_taped) (nI m_at) (nI m_to) (nI m_readMany) (nI m_readMany) m_fewest (nI m_size) g_2 md) := hD
        refine lv_iinc (v := nI (k + 1)) (lv' := [(1, .int (nI (k + 1))), (0, .ref m0)]) hx hb dX9_becomesRead_30 hl (k := 0) rfl (my_incN k 1 (by decide +kernel)) (by decide) rfl (fun ls hl => ?_)
        refine lv_goto (tgt := 10) hx hb dX9_becomesRead_33 (by decide) ?_
        exact ih10  (k + 1) g_2 (by omega) (by first | assumption | omega | decide +kernel) (by first | assumption | omega | decide +kernel) (cp_step (by assumption) hcp) hR_g_2 _ _ ls hP hD hS (lv_sub hl [0, 1] rfl)
  exact loop10 ((64 - 0) + 1) 0 mn (Nat.lt_succ_self _) (by first | assumption | omega | decide +kernel) (by first | assumption | omega | decide +kernel) (fun j h => absurd h (Nat.not_lt_zero j)) hR_mn _ _ ls hP hD hS (lv_sub hl [0, 1] rfl)
abbrev wl_k_X9_readsPart (cI cJ cK : ClassId) (m0 : Nat) (a_row : Nat) (a_tape : Nat) (a_number : Nat) (a_read : Nat) (a_readBits : Nat) (a_stands : Nat) (a_parted : Nat) (a_bitsWere : Nat) (a_stood : Nat) (a_chosen : Nat) (a_bestChosen : Nat) (a_often : Nat) (a_sorted : Nat) (a_risen : Nat) (a_risenWays : Nat) (v0_ : Int32) (v1_ : Int32) (v2_ : Int32) (v3_ : Int32) (v4_ : Int32) (v5_ : Int32) (v6_ : Int32) (v7_ : Int32) (v8_ : Int32) (v9_ : Nat → Int32) (v10_ : Nat → Int32) : va_W := [(m0, .inr (9, [.int v0_, .int v1_, .ref a_row, .ref a_tape, .int v2_, .int v3_, .int v4_, .int v5_, .ref a_number, .ref a_read, .int v6_, .ref a_readBits, .ref a_stands, .ref a_parted, .ref a_bitsWere, .ref a_stood, .ref a_chosen, .ref a_bestChosen, .int v7_, .ref a_often, .ref a_sorted, .int v8_, .ref a_risen, .ref a_risenWays])), (a_tape, .inl (cI, 100, .inl v9_)), (a_read, .inl (cI, 64, .inl v10_))]
set_option maxHeartbeats 4000000 in
set_option maxRecDepth 100000 in
theorem k_X9_readsPart (l : Launch) (D : va_G) (cI cJ cK : ClassId) (m0 : Nat) (a_row : Nat) (a_tape : Nat) (a_number : Nat) (a_read : Nat) (a_readBits : Nat) (a_stands : Nat) (a_parted : Nat) (a_bitsWere : Nat) (a_stood : Nat) (a_chosen : Nat) (a_bestChosen : Nat) (a_often : Nat) (a_sorted : Nat) (a_risen : Nat) (a_risenWays : Nat) (m_thrown : Int32) (m_told : Nat) (m_taped : Nat) (m_at : Nat) (m_to : Nat) (m_many : Nat) (m_readMany : Nat) (m_fewest : Int32) (m_size : Nat) (mt : Nat → Int32) (md : Nat → Int32) (hz_m_told : m_told ≤ 64) (hz_m_taped : m_taped ≤ 100) (hz_m_at : m_at ≤ 100) (hz_m_to : m_to ≤ 100) (hz_m_many : m_many ≤ 64) (hz_m_readMany : m_readMany ≤ 64) (hz_m_size : m_size ≤ 64) (hR_mt : RB 0 255 mt) (hR_md : RB 0 255 md) (hpa : m_at ≤ m_to) : ctI l yX9_readsPart wsX9_readsPart ({ frames := 3, cells := 0, slots := 0, locals := 180 } : Room) D (tyIJ cI cJ cK) [.ref m0] (wl_k_X9_readsPart cI cJ cK m0 a_row a_tape a_number a_read a_readBits a_stands a_parted a_bitsWere a_stood a_chosen a_bestChosen a_often a_sorted a_risen a_risenWays m_thrown (nI m_told) (nI m_taped) (nI m_at) (nI m_to) (nI m_many) (nI m_readMany) m_fewest (nI m_size) mt md) (fun (r : Int32) (u : va_W) => (∃ (m_at' : Nat) (m_readMany' : Nat) (md' : Nat → Int32), u = (wl_k_X9_readsPart cI cJ cK m0 a_row a_tape a_number a_read a_readBits a_stands a_parted a_bitsWere a_stood a_chosen a_bestChosen a_often a_sorted a_risen a_risenWays m_thrown (nI m_told) (nI m_taped) (nI m_at') (nI m_to) (nI m_many) (nI m_readMany') m_fewest (nI m_size) mt md') ∧ r = 1 ∧ m_at' ≤ 100 ∧ m_readMany' ≤ 64 ∧ RB 0 255 md' ∧ ptOk mt m_to m_at ∧ m_readMany' = m_readMany + ptT mt m_to m_at ∧ m_at' = ptE mt m_to m_at ∧ m_at' ≤ m_to ∧ m_at < m_at' ∧ md' = fb_put md (fun _ => nI (ptV mt m_to m_at)) m_readMany (ptT mt m_to m_at) ∧ (m_to ≤ m_at' ∨ (mt m_at').toInt = 44)) ∨ (∃ (m_at' : Nat) (m_readMany' : Nat) (md' : Nat → Int32), u = (wl_k_X9_readsPart cI cJ cK m0 a_row a_tape a_number a_read a_readBits a_stands a_parted a_bitsWere a_stood a_chosen a_bestChosen a_often a_sorted a_risen a_risenWays m_thrown (nI m_told) (nI m_taped) (nI m_at') (nI m_to) (nI m_many) (nI m_readMany') m_fewest (nI m_size) mt md') ∧ r = 0 ∧ m_at' ≤ 100 ∧ m_readMany' ≤ 64 ∧ RB 0 255 md' ∧ m_at ≤ m_at' ∧ m_at' ≤ m_to ∧ (¬ (ptOk mt m_to m_at ∧ m_readMany + ptT mt m_to m_at ≤ 64 ∧ (m_to ≤ ptE mt m_to m_at ∨ isS mt m_to (ptE mt m_to m_at) 44 = true))))) := by
  refine ctI.of (cc := cX9_readsPart) (maxL := 5) (ret := (some .boolean)) (by decide) rfl (Nat.le_of_ble_eq_true rfl) ?_
  intro p e s m below meth c ls A hx hb hr hts hown hml hlocks hname hA hK hN hP hD hS hl
  have hl : lv_has ls 5 [(0, .ref m0)] := hl
  have hown : s.vm.findClass RX9 = some m.cls := hown
  have hi9 : ∀ w ∈ u_ws RX9 TX9 24, w ∈ wsX9_readsPart := by decide +kernel
  have fl17 := hts (.fieldLink RX9 17 "PlaneColumnModel" "tape" "[I") (by decide +kernel)
  have fl25 := hts (.fieldLink RX9 25 "PlaneColumnModel" "to" "I") (by decide +kernel)
  have fl28 := hts (.fieldLink RX9 28 "PlaneColumnModel" "at" "I") (by decide +kernel)
  have fl52 := hts (.fieldLink RX9 52 "PlaneColumnModel" "read" "[I") (by decide +kernel)
  have fl93 := hts (.fieldLink RX9 93 "PlaneColumnModel" "readMany" "I") (by decide +kernel)
  refine lv_aload_n hx hb dX9_readsPart_0 rfl (lv_at hl 0 rfl) ?_
  refine va_get (ci := 9) (v := .int (nI m_at)) (C := RX9) (T := TX9) (N := 24) hx hb hts hi9 hown hK hP 0 rfl rfl 5 (by decide) fl28 (fun _ h9 => h9) rfl dX9_readsPart_1 ?_
  refine lv_istore_n (lv' := [(1, .int (nI m_at)), (0, .ref m0)]) hx hb dX9_readsPart_4 rfl hl (by decide) rfl (fun ls hl => ?_)
  refine lv_aload_n hx hb dX9_readsPart_5 rfl (lv_at hl 1 rfl) ?_
  refine lv_iconst (v := 3) hx hb dX9_readsPart_6 (by decide +kernel) ?_
  refine lv_iconst (v := 0) hx hb dX9_readsPart_7 (by decide +kernel) ?_
  refine lv_sipush (v := 255) hx hb dX9_readsPart_8 (by decide +kernel) ?_
  refine my_goIS (wc := (wl_k_X9_number cI cJ cK m0 a_row a_tape a_number a_read a_readBits a_stands a_parted a_bitsWere a_stood a_chosen a_bestChosen a_often a_sorted a_risen a_risenWays m_thrown (nI m_told) (nI m_taped) (nI m_at) (nI m_to) (nI m_many) (nI m_readMany) m_fewest (nI m_size) mt)) hP hD hS hA [0, 1] rfl [some 0, some 1] (by decide +kernel) (my_cV (As := [.int 3, .int 0, .int 255]) (rest := []) (ci := 9) (wc := (wl_k_X9_number cI cJ cK m0 a_row a_tape a_number a_read a_readBits a_stands a_parted a_bitsWere a_stood a_chosen a_bestChosen a_often a_sorted a_risen a_risenWays m_thrown (nI m_told) (nI m_taped) (nI m_at) (nI m_to) (nI m_many) (nI m_readMany) m_fewest (nI m_size) mt)) ⟨hx, hb, hml, hown, hts⟩ (cwV 3 hts gX9_readsPart_X9_number rfl rfl rfl (by decide +kernel) ⟨Nat.le_of_ble_eq_true rfl, Nat.le_of_ble_eq_true rfl⟩) hN hK hP hD [0, 1] rfl (by decide) rfl 0 rfl rfl rfl rfl hl.1 rfl (Nat.le_of_ble_eq_true rfl) dX9_readsPart_11 ⟨Nat.le_of_ble_eq_true rfl, Nat.le_of_ble_eq_true rfl⟩  ((k_X9_number l D cI cJ cK m0 a_row a_tape a_number a_read a_readBits a_stands a_parted a_bitsWere a_stood a_chosen a_bestChosen a_often a_sorted a_risen a_risenWays m_thrown m_told m_taped m_at m_to m_many m_readMany m_fewest m_size mt 3 0 255 (by first | assumption | omega | decide +kernel) (by first | assumption | omega | decide +kernel) (by first | assumption | omega | decide +kernel) (by first | assumption | omega | decide +kernel) (by first | assumption | omega | decide +kernel) (by first | assumption | omega | decide +kernel) (by first | assumption | omega | decide +kernel) hR_mt (by first | assumption | omega | decide +kernel) (by first | assumption | omega | decide +kernel) (by first | assumption | omega | decide +kernel) (by first | assumption | omega | decide +kernel)) _)) (fun r u H locs hp hPD hS => ?_)
  rcases hp with ⟨v_1, m_at_2, rfl, rfl, hhz_m_at_3, hok, hv_4, he_5, ht_6, hu_7, hw_8, hx_9⟩ | ⟨m_at_10, rfl, rfl, hhz_m_at_11, hno, ht_12, hu_13⟩
  ·
    obtain ⟨hP, hD⟩ := hPD rfl
    have hP : va_P D vwCl (wl_k_X9_readsPart cI cJ cK m0 a_row a_tape a_number a_read a_readBits a_stands a_parted a_bitsWere a_stood a_chosen a_bestChosen a_often a_sorted a_risen a_risenWays m_thrown (nI m_told) (nI m_taped) (nI m_at_2) (nI m_to) (nI m_many) (nI m_readMany) m_fewest (nI m_size) mt md) H := hP
    have hD : va_D A (wl_k_X9_readsPart cI cJ cK m0 a_row a_tape a_number a_read a_readBits a_stands a_parted a_bitsWere a_stood a_chosen a_bestChosen a_often a_sorted a_risen a_risenWays m_thrown (nI m_told) (nI m_taped) (nI m_at_2) (nI m_to) (nI m_many) (nI m_readMany) m_fewest (nI m_size) mt md) := hD
    try have hok1 := hok
    refine lv_istore_n (lv' := [(2, .int (nI v_1)), (1, .int (nI m_at)), (0, .ref m0)]) hx hb dX9_readsPart_14 rfl hl (by decide) rfl (fun ls hl => ?_)
    refine lv_iload_n hx hb dX9_readsPart_15 rfl (lv_at hl 0 rfl) ?_
    refine lv_if_ge (tgt := 21) hx hb dX9_readsPart_16 (by decide) (fun c16 => ?_) (fun c16 => ?_)
    ·
      have d16 : ((v_1 : Nat) : Int) ≥ (0 : Int) := my_ge c16 (nI_toInt (by omega)) (by decide +kernel)
      refine lv_iconst (v := 1) hx hb dX9_readsPart_21 (by decide +kernel) ?_
      refine lv_istore_n (lv' := [(3, .int 1), (2, .int (nI v_1)), (1, .int (nI m_at)), (0, .ref m0)]) hx hb dX9_readsPart_22 rfl hl (by decide) rfl (fun ls hl => ?_)
      refine lv_aload_n hx hb dX9_readsPart_23 rfl (lv_at hl 3 rfl) ?_
      refine lv_bipush (v := 120) hx hb dX9_readsPart_24 (by decide +kernel) ?_
      refine my_goIS (wc := (wl_k_X9_takes cI cJ cK m0 a_row a_tape a_number a_read a_readBits a_stands a_parted a_bitsWere a_stood a_chosen a_bestChosen a_often a_sorted a_risen a_risenWays m_thrown (nI m_told) (nI m_taped) (nI m_at_2) (nI m_to) (nI m_many) (nI m_readMany) m_fewest (nI m_size) mt)) hP hD hS hA [0, 1] rfl [some 0, some 1] (by decide +kernel) (my_cV (As := [.int 120]) (rest := []) (ci := 9) (wc := (wl_k_X9_takes cI cJ cK m0 a_row a_tape a_number a_read a_readBits a_stands a_parted a_bitsWere a_stood a_chosen a_bestChosen a_often a_sorted a_risen a_risenWays m_thrown (nI m_told) (nI m_taped) (nI m_at_2) (nI m_to) (nI m_many) (nI m_readMany) m_fewest (nI m_size) mt)) ⟨hx, hb, hml, hown, hts⟩ (cwV 1 hts gX9_readsPart_X9_takes rfl rfl rfl (by decide +kernel) ⟨Nat.le_of_ble_eq_true rfl, Nat.le_of_ble_eq_true rfl⟩) hN hK hP hD [0, 1] rfl (by decide) rfl 0 rfl rfl rfl rfl hl.1 rfl (Nat.le_of_ble_eq_true rfl) dX9_readsPart_26 ⟨Nat.le_of_ble_eq_true rfl, Nat.le_of_ble_eq_true rfl⟩  ((k_X9_takes l D cI cJ cK m0 a_row a_tape a_number a_read a_readBits a_stands a_parted a_bitsWere a_stood a_chosen a_bestChosen a_often a_sorted a_risen a_risenWays m_thrown m_told m_taped m_at_2 m_to m_many m_readMany m_fewest m_size mt (120 : Int32) (120 : Int) (by decide +kernel) (by first | assumption | omega | decide +kernel) (by first | assumption | omega | decide +kernel) (by first | assumption | omega | decide +kernel) (by first | assumption | omega | decide +kernel) (by first | assumption | omega | decide +kernel) (by first | assumption | omega | decide +kernel) (by first | assumption | omega | decide +kernel) hR_mt) _)) (fun r u H locs hp hPD hS => ?_)
      rcases hp with ⟨rfl, rfl, hc_14, he_15⟩ | ⟨rfl, rfl, ho_16⟩
      ·
        obtain ⟨hP, hD⟩ := hPD rfl
        have hP : va_P D vwCl (wl_k_X9_readsPart cI cJ cK m0 a_row a_tape a_number a_read a_readBits a_stands a_parted a_bitsWere a_stood a_chosen a_bestChosen a_often a_sorted a_risen a_risenWays m_thrown (nI m_told) (nI m_taped) (nI (m_at_2 + 1)) (nI m_to) (nI m_many) (nI m_readMany) m_fewest (nI m_size) mt md) H := hP
        have hD : va_D A (wl_k_X9_readsPart cI cJ cK m0 a_row a_tape a_number a_read a_readBits a_stands a_parted a_bitsWere a_stood a_chosen a_bestChosen a_often a_sorted a_risen a_risenWays m_thrown (nI m_told) (nI m_taped) (nI (m_at_2 + 1)) (nI m_to) (nI m_many) (nI m_readMany) m_fewest (nI m_size) mt md) := hD
        refine lv_if_eq (tgt := 47) hx hb dX9_readsPart_29 (by decide) (fun c29 => ?_) (fun c29 => ?_)
        ·
          exact absurd c29 (by decide +kernel)
        ·
          refine lv_aload_n hx hb dX9_readsPart_32 rfl (lv_at hl 3 rfl) ?_
          refine lv_iconst (v := 2) hx hb dX9_readsPart_33 (by decide +kernel) ?_
          refine lv_iconst (v := 1) hx hb dX9_readsPart_34 (by decide +kernel) ?_
          refine lv_bipush (v := 64) hx hb dX9_readsPart_35 (by decide +kernel) ?_
          refine my_goIS (wc := (wl_k_X9_number cI cJ cK m0 a_row a_tape a_number a_read a_readBits a_stands a_parted a_bitsWere a_stood a_chosen a_bestChosen a_often a_sorted a_risen a_risenWays m_thrown (nI m_told) (nI m_taped) (nI (m_at_2 + 1)) (nI m_to) (nI m_many) (nI m_readMany) m_fewest (nI m_size) mt)) hP hD hS hA [0, 1] rfl [some 0, some 1] (by decide +kernel) (my_cV (As := [.int 2, .int 1, .int 64]) (rest := []) (ci := 9) (wc := (wl_k_X9_number cI cJ cK m0 a_row a_tape a_number a_read a_readBits a_stands a_parted a_bitsWere a_stood a_chosen a_bestChosen a_often a_sorted a_risen a_risenWays m_thrown (nI m_told) (nI m_taped) (nI (m_at_2 + 1)) (nI m_to) (nI m_many) (nI m_readMany) m_fewest (nI m_size) mt)) ⟨hx, hb, hml, hown, hts⟩ (cwV 3 hts gX9_readsPart_X9_number rfl rfl rfl (by decide +kernel) ⟨Nat.le_of_ble_eq_true rfl, Nat.le_of_ble_eq_true rfl⟩) hN hK hP hD [0, 1] rfl (by decide) rfl 0 rfl rfl rfl rfl hl.1 rfl (Nat.le_of_ble_eq_true rfl) dX9_readsPart_37 ⟨Nat.le_of_ble_eq_true rfl, Nat.le_of_ble_eq_true rfl⟩  ((k_X9_number l D cI cJ cK m0 a_row a_tape a_number a_read a_readBits a_stands a_parted a_bitsWere a_stood a_chosen a_bestChosen a_often a_sorted a_risen a_risenWays m_thrown m_told m_taped (m_at_2 + 1) m_to m_many m_readMany m_fewest m_size mt 2 1 64 (by first | assumption | omega | decide +kernel) (by first | assumption | omega | decide +kernel) (by first | assumption | omega | decide +kernel) (by first | assumption | omega | decide +kernel) (by first | assumption | omega | decide +kernel) (by first | assumption | omega | decide +kernel) (by first | assumption | omega | decide +kernel) hR_mt (by first | assumption | omega | decide +kernel) (by first | assumption | omega | decide +kernel) (by first | assumption | omega | decide +kernel) (by first | assumption | omega | decide +kernel)) _)) (fun r u H locs hp hPD hS => ?_)
          rcases hp with ⟨v_17, m_at_18, rfl, rfl, hhz_m_at_19, hok, hv_20, he_21, ht_22, hu_23, hw_24, hx_25⟩ | ⟨m_at_26, rfl, rfl, hhz_m_at_27, hno, ht_28, hu_29⟩
          ·
            obtain ⟨hP, hD⟩ := hPD rfl
            have hP : va_P D vwCl (wl_k_X9_readsPart cI cJ cK m0 a_row a_tape a_number a_read a_readBits a_stands a_parted a_bitsWere a_stood a_chosen a_bestChosen a_often a_sorted a_risen a_risenWays m_thrown (nI m_told) (nI m_taped) (nI m_at_18) (nI m_to) (nI m_many) (nI m_readMany) m_fewest (nI m_size) mt md) H := hP
            have hD : va_D A (wl_k_X9_readsPart cI cJ cK m0 a_row a_tape a_number a_read a_readBits a_stands a_parted a_bitsWere a_stood a_chosen a_bestChosen a_often a_sorted a_risen a_risenWays m_thrown (nI m_told) (nI m_taped) (nI m_at_18) (nI m_to) (nI m_many) (nI m_readMany) m_fewest (nI m_size) mt md) := hD
            refine lv_istore_n (lv' := [(3, .int (nI v_17)), (2, .int (nI v_1)), (1, .int (nI m_at)), (0, .ref m0)]) hx hb dX9_readsPart_40 rfl hl (by decide) rfl (fun ls hl => ?_)
            refine lv_iload_n hx hb dX9_readsPart_41 rfl (lv_at hl 0 rfl) ?_
            refine lv_if_ge (tgt := 47) hx hb dX9_readsPart_42 (by decide) (fun c42 => ?_) (fun c42 => ?_)
            ·
              have d42 : ((v_17 : Nat) : Int) ≥ (0 : Int) := my_ge c42 (nI_toInt (by omega)) (by decide +kernel)
              have hpt : ptOk mt m_to m_at ∧ ptT mt m_to m_at = v_17 ∧ ptE mt m_to m_at = m_at_18 ∧ ptV mt m_to m_at = v_1 := by first | (have q := pt_noX (f := mt) (n := m_to) (a := m_at) (by assumption) (by omega); exact ⟨q.2.2 hok1, q.1, q.2.1, by unfold ptV; symm; assumption⟩) | (have q := pt_X (f := mt) (n := m_to) (a := m_at) (by assumption) (by omega) (by assumption) (by assumption) (by assumption); exact ⟨q.2.2 hok1 hok, q.1, q.2.1, by unfold ptV; symm; assumption⟩)
              refine lv_aload_n hx hb dX9_readsPart_47 rfl (lv_at hl 3 rfl) ?_
              refine va_get (ci := 9) (v := .int (nI m_readMany)) (C := RX9) (T := TX9) (N := 24) hx hb hts hi9 hown hK hP 0 rfl rfl 10 (by decide) fl93 (fun _ h9 => h9) rfl dX9_readsPart_48 ?_
              refine lv_iload_n hx hb dX9_readsPart_51 rfl (lv_at hl 0 rfl) ?_
              refine lv_iadd hx hb dX9_readsPart_52 ?_
              refine my_eqi (y := nI (m_readMany + v_17)) (nI_add _ _) ?_
              refine lv_bipush (v := 64) hx hb dX9_readsPart_53 (by decide +kernel) ?_
              refine lv_icmp_le (tgt := 65) hx hb dX9_readsPart_55 (by decide) (fun c55 => ?_) (fun c55 => ?_)
              ·
                have d55 : ((m_readMany + v_17 : Nat) : Int) ≤ (64 : Int) := my_le c55 (nI_toInt (by omega)) (by decide +kernel)
                refine lv_aload_n hx hb dX9_readsPart_65 rfl (lv_at hl 3 rfl) ?_
                refine va_get (ci := 9) (v := .int (nI m_at_18)) (C := RX9) (T := TX9) (N := 24) hx hb hts hi9 hown hK hP 0 rfl rfl 5 (by decide) fl28 (fun _ h9 => h9) rfl dX9_readsPart_66 ?_
                refine lv_aload_n hx hb dX9_readsPart_69 rfl (lv_at hl 3 rfl) ?_
                refine va_get (ci := 9) (v := .int (nI m_to)) (C := RX9) (T := TX9) (N := 24) hx hb hts hi9 hown hK hP 0 rfl rfl 6 (by decide) fl25 (fun _ h9 => h9) rfl dX9_readsPart_70 ?_
                refine lv_icmp_ge (tgt := 92) hx hb dX9_readsPart_73 (by decide) (fun c73 => ?_) (fun c73 => ?_)
                ·
                  have d73 : ((m_at_18 : Nat) : Int) ≥ ((m_to : Nat) : Int) := my_ge c73 (nI_toInt (by omega)) (nI_toInt (by omega))
                  refine lv_iconst (v := 0) hx hb dX9_readsPart_92 (by decide +kernel) ?_
                  refine lv_istore (lv' := [(4, .int 0), (3, .int (nI v_17)), (2, .int (nI v_1)), (1, .int (nI m_at)), (0, .ref m0)]) hx hb dX9_readsPart_93 hl (by decide) rfl (fun ls hl => ?_)
                  have loop95 : ∀ (n9 : Nat) (k : Nat) (m0_readMany_95 : Nat) (a_read_95 : Nat → Int32), v_17 - k < n9 → (k ≤ 64) → (m0_readMany_95 = m_readMany + k) → (k ≤ v_17) → (a_read_95 = fb_put md (fun _ => nI v_1) m_readMany k) → (m0_readMany_95 ≤ 64) → (RB 0 255 a_read_95) → ∀ (H : Heap) (locs : List Loc) (ls : Array Slot), va_P D vwCl (wl_k_X9_readsPart cI cJ cK m0 a_row a_tape a_number a_read a_readBits a_stands a_parted a_bitsWere a_stood a_chosen a_bestChosen a_often a_sorted a_risen a_risenWays m_thrown (nI m_told) (nI m_taped) (nI m_at_18) (nI m_to) (nI m_many) (nI m0_readMany_95) m_fewest (nI m_size) mt a_read_95) H → va_D A (wl_k_X9_readsPart cI cJ cK m0 a_row a_tape a_number a_read a_readBits a_stands a_parted a_bitsWere a_stood a_chosen a_bestChosen a_often a_sorted a_risen a_risenWays m_thrown (nI m_told) (nI m_taped) (nI m_at_18) (nI m_to) (nI m_many) (nI m0_readMany_95) m_fewest (nI m_size) mt a_read_95) → va_S A s.heap H locs → lv_has ls 5 [(4, .int (nI k)), (3, .int (nI v_17)), (2, .int (nI v_1)), (1, .int (nI m_at)), (0, .ref m0)] → W p l e ({ frames := 3, cells := 0, slots := 0, locals := 180 } : Room) s m [.ref m0].toArray below meth c H locs 0 0 (MQ below (va_Qi (fun (r : Int32) (u : va_W) => (∃ (m_at' : Nat) (m_readMany' : Nat) (md' : Nat → Int32), u = (wl_k_X9_readsPart cI cJ cK m0 a_row a_tape a_number a_read a_readBits a_stands a_parted a_bitsWere a_stood a_chosen a_bestChosen a_often a_sorted a_risen a_risenWays m_thrown (nI m_told) (nI m_taped) (nI m_at') (nI m_to) (nI m_many) (nI m_readMany') m_fewest (nI m_size) mt md') ∧ r = 1 ∧ m_at' ≤ 100 ∧ m_readMany' ≤ 64 ∧ RB 0 255 md' ∧ ptOk mt m_to m_at ∧ m_readMany' = m_readMany + ptT mt m_to m_at ∧ m_at' = ptE mt m_to m_at ∧ m_at' ≤ m_to ∧ m_at < m_at' ∧ md' = fb_put md (fun _ => nI (ptV mt m_to m_at)) m_readMany (ptT mt m_to m_at) ∧ (m_to ≤ m_at' ∨ (mt m_at').toInt = 44)) ∨ (∃ (m_at' : Nat) (m_readMany' : Nat) (md' : Nat → Int32), u = (wl_k_X9_readsPart cI cJ cK m0 a_row a_tape a_number a_read a_readBits a_stands a_parted a_bitsWere a_stood a_chosen a_bestChosen a_often a_sorted a_risen a_risenWays m_thrown (nI m_told) (nI m_taped) (nI m_at') (nI m_to) (nI m_many) (nI m_readMany') m_fewest (nI m_size) mt md') ∧ r = 0 ∧ m_at' ≤ 100 ∧ m_readMany' ≤ 64 ∧ RB 0 255 md' ∧ m_at ≤ m_at' ∧ m_at' ≤ m_to ∧ (¬ (ptOk mt m_to m_at ∧ m_readMany + ptT mt m_to m_at ≤ 64 ∧ (m_to ≤ ptE mt m_to m_at ∨ isS mt m_to (ptE mt m_to m_at) 44 = true))))) (my_B D (tyIJ cI cJ cK) A) A) [.ref m0].toArray s 0 0 A) (F0 m 95 ls []) := by
                    intro n9
                    induction n9 with
                    | zero =>
                      intro k m0_readMany_95 a_read_95 hn9
                      exact absurd hn9 (Nat.not_lt_zero _)
                    | succ n9 ih95 =>
                      intro k m0_readMany_95 a_read_95 hn9 hk_k hs hk2 hfp hz_m0_readMany_95 hR_a_read_95 H locs ls hP hD hS hl
                      refine lv_iload hx hb dX9_readsPart_95 (lv_at hl 0 rfl) ?_
                      refine lv_iload_n hx hb dX9_readsPart_97 rfl (lv_at hl 1 rfl) ?_
                      refine lv_icmp_ge (tgt := 127) hx hb dX9_readsPart_98 (by decide) (fun c98 => ?_) (fun c98 => ?_)
                      ·
                        have d98 : ((k : Nat) : Int) ≥ ((v_17 : Nat) : Int) := my_ge c98 (nI_toInt (by omega)) (nI_toInt (by omega))
                        refine lv_iconst (v := 1) hx hb dX9_readsPart_127 (by decide +kernel) ?_
                        exact my_retZ hx hb hr hlocks (by decide +kernel) hK hS (wl_k_X9_readsPart cI cJ cK m0 a_row a_tape a_number a_read a_readBits a_stands a_parted a_bitsWere a_stood a_chosen a_bestChosen a_often a_sorted a_risen a_risenWays m_thrown (nI m_told) (nI m_taped) (nI m_at_18) (nI m_to) (nI m_many) (nI m0_readMany_95) m_fewest (nI m_size) mt a_read_95) hP hD (Or.inl ⟨m_at_18, m0_readMany_95, a_read_95, rfl, rfl, (by first | assumption | omega | trivial | decide +kernel), (by first | assumption | omega | trivial | decide +kernel), hR_a_read_95, hpt.1, (by have h9 := hpt.2.1; omega), (by have h9 := hpt.2.2.1; omega), (by first | assumption | omega | trivial | decide +kernel), (by have h9 := hpt.2.2.1; have h8 := ptE_gt hpt.1; omega), (by rw [hpt.2.1, hpt.2.2.2]; refine hfp.trans ?_; congr 1; omega), (by first | assumption | omega | trivial | decide +kernel)⟩) dX9_readsPart_128
                      ·
                        have d98 : ((k : Nat) : Int) < ((v_17 : Nat) : Int) := my_nge c98 (nI_toInt (by omega)) (nI_toInt (by omega))
                        refine lv_aload_n hx hb dX9_readsPart_101 rfl (lv_at hl 4 rfl) ?_
                        refine va_get (ci := 9) (v := .ref a_read) (C := RX9) (T := TX9) (N := 24) hx hb hts hi9 hown hK hP 0 rfl rfl 9 (by decide) fl52 (fun _ h9 => h9) rfl dX9_readsPart_102 ?_
                        refine lv_aload_n hx hb dX9_readsPart_105 rfl (lv_at hl 4 rfl) ?_
                        refine va_get (ci := 9) (v := .int (nI m0_readMany_95)) (C := RX9) (T := TX9) (N := 24) hx hb hts hi9 hown hK hP 0 rfl rfl 10 (by decide) fl93 (fun _ h9 => h9) rfl dX9_readsPart_106 ?_
                        refine lv_iload_n hx hb dX9_readsPart_109 rfl (lv_at hl 2 rfl) ?_
                        refine va_iast hx hb hK hP hD hS 2 0 rfl rfl (vp_in_nI (by omega) (by omega)) dX9_readsPart_110 (fun H locs hP hD hS => ?_)
                        obtain ⟨g_30, eg_30⟩ : ∃ g : Nat → Int32, g = upd a_read_95 m0_readMany_95 (nI v_1) := ⟨_, rfl⟩
                        have eU : upd a_read_95 (nI m0_readMany_95 : Int32).toNatClampNeg (nI v_1) = g_30 := by rw [eg_30, show (nI m0_readMany_95 : Int32).toNatClampNeg = m0_readMany_95 from nI_clamp (by omega)]
                        rw [eU] at hP hD
                        have hR_g_30 : RB 0 255 g_30 := by rw [eg_30]; exact hR_a_read_95.upd (nI_toInt (by omega)) (by omega) (by omega)
                        have hP : va_P D vwCl (wl_k_X9_readsPart cI cJ cK m0 a_row a_tape a_number a_read a_readBits a_stands a_parted a_bitsWere a_stood a_chosen a_bestChosen a_often a_sorted a_risen a_risenWays m_thrown (nI m_told) (nI m_taped) (nI m_at_18) (nI m_to) (nI m_many) (nI m0_readMany_95) m_fewest (nI m_size) mt g_30) H := hP
                        have hD : va_D A (wl_k_X9_readsPart cI cJ cK m0 a_row a_tape a_number a_read a_readBits a_stands a_parted a_bitsWere a_stood a_chosen a_bestChosen a_often a_sorted a_risen a_risenWays m_thrown (nI m_told) (nI m_taped) (nI m_at_18) (nI m_to) (nI m_many) (nI m0_readMany_95) m_fewest (nI m_size) mt g_30) := hD
                        refine lv_aload_n hx hb dX9_readsPart_111 rfl (lv_at hl 4 rfl) ?_
                        refine lv_dup hx hb dX9_readsPart_112 rfl ?_
                        refine va_get (ci := 9) (v := .int (nI m0_readMany_95)) (C := RX9) (T := TX9) (N := 24) hx hb hts hi9 hown hK hP 0 rfl rfl 10 (by decide) fl93 (fun _ h9 => h9) rfl dX9_readsPart_113 ?_
                        refine lv_iconst (v := 1) hx hb dX9_readsPart_116 (by decide +kernel) ?_
                        refine lv_iadd hx hb dX9_readsPart_117 ?_
                        refine my_eqi (y := nI (m0_readMany_95 + 1)) (my_addN m0_readMany_95 1) ?_
                        refine va_put (ci := 9) (v := .int (nI (m0_readMany_95 + 1))) (ty := (.int)) (C := RX9) (T := TX9) (N := 24) hx hb hts hi9 tyX9 tyX9_ok nmX9 hown hK hP hD hS 0 rfl rfl 10 (by decide) fl93 (fun _ h9 => h9) rfl (by decide +kernel) rfl rfl (Nat.le_of_ble_eq_true rfl) dX9_readsPart_118 (fun H locs hP hD hS => ?_)
                        have hP : va_P D vwCl (wl_k_X9_readsPart cI cJ cK m0 a_row a_tape a_number a_read a_readBits a_stands a_parted a_bitsWere a_stood a_chosen a_bestChosen a_often a_sorted a_risen a_risenWays m_thrown (nI m_told) (nI m_taped) (nI m_at_18) (nI m_to) (nI m_many) (nI (m0_readMany_95 + 1)) m_fewest (nI m_size) mt g_30) H := hP
                        have hD : va_D A (wl_k_X9_readsPart cI cJ cK m0 a_row a_tape a_number a_read a_readBits a_stands a_parted a_bitsWere a_stood a_chosen a_bestChosen a_often a_sorted a_risen a_risenWays m_thrown (nI m_told) (nI m_taped) (nI m_at_18) (nI m_to) (nI m_many) (nI (m0_readMany_95 + 1)) m_fewest (nI m_size) mt g_30) := hD
                        refine lv_iinc (v := nI (k + 1)) (lv' := [(4, .int (nI (k + 1))), (3, .int (nI v_17)), (2, .int (nI v_1)), (1, .int (nI m_at)), (0, .ref m0)]) hx hb dX9_readsPart_121 hl (k := 0) rfl (my_incN k 1 (by decide +kernel)) (by decide) rfl (fun ls hl => ?_)
                        refine lv_goto (tgt := 95) hx hb dX9_readsPart_124 (by decide) ?_
                        exact ih95  (k + 1) (m0_readMany_95 + 1) g_30 (by omega) (by first | assumption | omega | decide +kernel) (by first | assumption | omega | decide +kernel) (by first | assumption | omega | decide +kernel) (fp_step hfp (by assumption) (by omega)) (by first | assumption | omega | decide +kernel) hR_g_30 _ _ ls hP hD hS (lv_sub hl [0, 1, 2, 3, 4] rfl)
                  exact loop95 ((v_17 - 0) + 1) 0 m_readMany md (Nat.lt_succ_self _) (by first | assumption | omega | decide +kernel) (by first | assumption | omega | decide +kernel) (by first | assumption | omega | decide +kernel) ((fb_put_0 _ _ _).symm) (by first | assumption | omega | decide +kernel) hR_md _ _ ls hP hD hS (lv_sub hl [0, 1, 2, 3, 4] rfl)
                ·
                  have d73 : ((m_at_18 : Nat) : Int) < ((m_to : Nat) : Int) := my_nge c73 (nI_toInt (by omega)) (nI_toInt (by omega))
                  refine lv_aload_n hx hb dX9_readsPart_76 rfl (lv_at hl 3 rfl) ?_
                  refine va_get (ci := 9) (v := .ref a_tape) (C := RX9) (T := TX9) (N := 24) hx hb hts hi9 hown hK hP 0 rfl rfl 3 (by decide) fl17 (fun _ h9 => h9) rfl dX9_readsPart_77 ?_
                  refine lv_aload_n hx hb dX9_readsPart_80 rfl (lv_at hl 3 rfl) ?_
                  refine va_get (ci := 9) (v := .int (nI m_at_18)) (C := RX9) (T := TX9) (N := 24) hx hb hts hi9 hown hK hP 0 rfl rfl 5 (by decide) fl28 (fun _ h9 => h9) rfl dX9_readsPart_81 ?_
                  refine va_iald hx hb hK hP 1 0 rfl rfl (vp_in_nI (by omega) (by omega)) dX9_readsPart_84 ?_
                  refine my_eqi (y := mt m_at_18) (congrArg mt (nI_clamp (by omega))) ?_
                  have hb_31 := hR_mt m_at_18
                  refine lv_bipush (v := 44) hx hb dX9_readsPart_85 (by decide +kernel) ?_
                  refine lv_icmp_eq (tgt := 92) hx hb dX9_readsPart_87 (by decide) (fun c87 => ?_) (fun c87 => ?_)
                  ·
                    have d87 : (mt m_at_18).toInt = (44 : Int) := my_eq c87 rfl (by decide +kernel)
                    refine lv_iconst (v := 0) hx hb dX9_readsPart_92 (by decide +kernel) ?_
                    refine lv_istore (lv' := [(4, .int 0), (3, .int (nI v_17)), (2, .int (nI v_1)), (1, .int (nI m_at)), (0, .ref m0)]) hx hb dX9_readsPart_93 hl (by decide) rfl (fun ls hl => ?_)
                    have loop95 : ∀ (n9 : Nat) (k : Nat) (m0_readMany_95 : Nat) (a_read_95 : Nat → Int32), v_17 - k < n9 → (k ≤ 64) → (m0_readMany_95 = m_readMany + k) → (k ≤ v_17) → (a_read_95 = fb_put md (fun _ => nI v_1) m_readMany k) → (m0_readMany_95 ≤ 64) → (RB 0 255 a_read_95) → ∀ (H : Heap) (locs : List Loc) (ls : Array Slot), va_P D vwCl (wl_k_X9_readsPart cI cJ cK m0 a_row a_tape a_number a_read a_readBits a_stands a_parted a_bitsWere a_stood a_chosen a_bestChosen a_often a_sorted a_risen a_risenWays m_thrown (nI m_told) (nI m_taped) (nI m_at_18) (nI m_to) (nI m_many) (nI m0_readMany_95) m_fewest (nI m_size) mt a_read_95) H → va_D A (wl_k_X9_readsPart cI cJ cK m0 a_row a_tape a_number a_read a_readBits a_stands a_parted a_bitsWere a_stood a_chosen a_bestChosen a_often a_sorted a_risen a_risenWays m_thrown (nI m_told) (nI m_taped) (nI m_at_18) (nI m_to) (nI m_many) (nI m0_readMany_95) m_fewest (nI m_size) mt a_read_95) → va_S A s.heap H locs → lv_has ls 5 [(4, .int (nI k)), (3, .int (nI v_17)), (2, .int (nI v_1)), (1, .int (nI m_at)), (0, .ref m0)] → W p l e ({ frames := 3, cells := 0, slots := 0, locals := 180 } : Room) s m [.ref m0].toArray below meth c H locs 0 0 (MQ below (va_Qi (fun (r : Int32) (u : va_W) => (∃ (m_at' : Nat) (m_readMany' : Nat) (md' : Nat → Int32), u = (wl_k_X9_readsPart cI cJ cK m0 a_row a_tape a_number a_read a_readBits a_stands a_parted a_bitsWere a_stood a_chosen a_bestChosen a_often a_sorted a_risen a_risenWays m_thrown (nI m_told) (nI m_taped) (nI m_at') (nI m_to) (nI m_many) (nI m_readMany') m_fewest (nI m_size) mt md') ∧ r = 1 ∧ m_at' ≤ 100 ∧ m_readMany' ≤ 64 ∧ RB 0 255 md' ∧ ptOk mt m_to m_at ∧ m_readMany' = m_readMany + ptT mt m_to m_at ∧ m_at' = ptE mt m_to m_at ∧ m_at' ≤ m_to ∧ m_at < m_at' ∧ md' = fb_put md (fun _ => nI (ptV mt m_to m_at)) m_readMany (ptT mt m_to m_at) ∧ (m_to ≤ m_at' ∨ (mt m_at').toInt = 44)) ∨ (∃ (m_at' : Nat) (m_readMany' : Nat) (md' : Nat → Int32), u = (wl_k_X9_readsPart cI cJ cK m0 a_row a_tape a_number a_read a_readBits a_stands a_parted a_bitsWere a_stood a_chosen a_bestChosen a_often a_sorted a_risen a_risenWays m_thrown (nI m_told) (nI m_taped) (nI m_at') (nI m_to) (nI m_many) (nI m_readMany') m_fewest (nI m_size) mt md') ∧ r = 0 ∧ m_at' ≤ 100 ∧ m_readMany' ≤ 64 ∧ RB 0 255 md' ∧ m_at ≤ m_at' ∧ m_at' ≤ m_to ∧ (¬ (ptOk mt m_to m_at ∧ m_readMany + ptT mt m_to m_at ≤ 64 ∧ (m_to ≤ ptE mt m_to m_at ∨ isS mt m_to (ptE mt m_to m_at) 44 = true))))) (my_B D (tyIJ cI cJ cK) A) A) [.ref m0].toArray s 0 0 A) (F0 m 95 ls []) := by
                      intro n9
                      induction n9 with
                      | zero =>
                        intro k m0_readMany_95 a_read_95 hn9
                        exact absurd hn9 (Nat.not_lt_zero _)
                      | succ n9 ih95 =>
                        intro k m0_readMany_95 a_read_95 hn9 hk_k hs hk2 hfp hz_m0_readMany_95 hR_a_read_95 H locs ls hP hD hS hl
                        refine lv_iload hx hb dX9_readsPart_95 (lv_at hl 0 rfl) ?_
                        refine lv_iload_n hx hb dX9_readsPart_97 rfl (lv_at hl 1 rfl) ?_
                        refine lv_icmp_ge (tgt := 127) hx hb dX9_readsPart_98 (by decide) (fun c98 => ?_) (fun c98 => ?_)
                        ·
                          have d98 : ((k : Nat) : Int) ≥ ((v_17 : Nat) : Int) := my_ge c98 (nI_toInt (by omega)) (nI_toInt (by omega))
                          refine lv_iconst (v := 1) hx hb dX9_readsPart_127 (by decide +kernel) ?_
                          exact my_retZ hx hb hr hlocks (by decide +kernel) hK hS (wl_k_X9_readsPart cI cJ cK m0 a_row a_tape a_number a_read a_readBits a_stands a_parted a_bitsWere a_stood a_chosen a_bestChosen a_often a_sorted a_risen a_risenWays m_thrown (nI m_told) (nI m_taped) (nI m_at_18) (nI m_to) (nI m_many) (nI m0_readMany_95) m_fewest (nI m_size) mt a_read_95) hP hD (Or.inl ⟨m_at_18, m0_readMany_95, a_read_95, rfl, rfl, (by first | assumption | omega | trivial | decide +kernel), (by first | assumption | omega | trivial | decide +kernel), hR_a_read_95, hpt.1, (by have h9 := hpt.2.1; omega), (by have h9 := hpt.2.2.1; omega), (by first | assumption | omega | trivial | decide +kernel), (by have h9 := hpt.2.2.1; have h8 := ptE_gt hpt.1; omega), (by rw [hpt.2.1, hpt.2.2.2]; refine hfp.trans ?_; congr 1; omega), (by first | assumption | omega | trivial | decide +kernel)⟩) dX9_readsPart_128
                        ·
                          have d98 : ((k : Nat) : Int) < ((v_17 : Nat) : Int) := my_nge c98 (nI_toInt (by omega)) (nI_toInt (by omega))
                          refine lv_aload_n hx hb dX9_readsPart_101 rfl (lv_at hl 4 rfl) ?_
                          refine va_get (ci := 9) (v := .ref a_read) (C := RX9) (T := TX9) (N := 24) hx hb hts hi9 hown hK hP 0 rfl rfl 9 (by decide) fl52 (fun _ h9 => h9) rfl dX9_readsPart_102 ?_
                          refine lv_aload_n hx hb dX9_readsPart_105 rfl (lv_at hl 4 rfl) ?_
                          refine va_get (ci := 9) (v := .int (nI m0_readMany_95)) (C := RX9) (T := TX9) (N := 24) hx hb hts hi9 hown hK hP 0 rfl rfl 10 (by decide) fl93 (fun _ h9 => h9) rfl dX9_readsPart_106 ?_
                          refine lv_iload_n hx hb dX9_readsPart_109 rfl (lv_at hl 2 rfl) ?_
                          refine va_iast hx hb hK hP hD hS 2 0 rfl rfl (vp_in_nI (by omega) (by omega)) dX9_readsPart_110 (fun H locs hP hD hS => ?_)
                          obtain ⟨g_32, eg_32⟩ : ∃ g : Nat → Int32, g = upd a_read_95 m0_readMany_95 (nI v_1) := ⟨_, rfl⟩
                          have eU : upd a_read_95 (nI m0_readMany_95 : Int32).toNatClampNeg (nI v_1) = g_32 := by rw [eg_32, show (nI m0_readMany_95 : Int32).toNatClampNeg = m0_readMany_95 from nI_clamp (by omega)]
                          rw [eU] at hP hD
                          have hR_g_32 : RB 0 255 g_32 := by rw [eg_32]; exact hR_a_read_95.upd (nI_toInt (by omega)) (by omega) (by omega)
                          have hP : va_P D vwCl (wl_k_X9_readsPart cI cJ cK m0 a_row a_tape a_number a_read a_readBits a_stands a_parted a_bitsWere a_stood a_chosen a_bestChosen a_often a_sorted a_risen a_risenWays m_thrown (nI m_told) (nI m_taped) (nI m_at_18) (nI m_to) (nI m_many) (nI m0_readMany_95) m_fewest (nI m_size) mt g_32) H := hP
                          have hD : va_D A (wl_k_X9_readsPart cI cJ cK m0 a_row a_tape a_number a_read a_readBits a_stands a_parted a_bitsWere a_stood a_chosen a_bestChosen a_often a_sorted a_risen a_risenWays m_thrown (nI m_told) (nI m_taped) (nI m_at_18) (nI m_to) (nI m_many) (nI m0_readMany_95) m_fewest (nI m_size) mt g_32) := hD
                          refine lv_aload_n hx hb dX9_readsPart_111 rfl (lv_at hl 4 rfl) ?_
                          refine lv_dup hx hb dX9_readsPart_112 rfl ?_
                          refine va_get (ci := 9) (v := .int (nI m0_readMany_95)) (C := RX9) (T := TX9) (N := 24) hx hb hts hi9 hown hK hP 0 rfl rfl 10 (by decide) fl93 (fun _ h9 => h9) rfl dX9_readsPart_113 ?_
                          refine lv_iconst (v := 1) hx hb dX9_readsPart_116 (by decide +kernel) ?_
                          refine lv_iadd hx hb dX9_readsPart_117 ?_
                          refine my_eqi (y := nI (m0_readMany_95 + 1)) (my_addN m0_readMany_95 1) ?_
                          refine va_put (ci := 9) (v := .int (nI (m0_readMany_95 + 1))) (ty := (.int)) (C := RX9) (T := TX9) (N := 24) hx hb hts hi9 tyX9 tyX9_ok nmX9 hown hK hP hD hS 0 rfl rfl 10 (by decide) fl93 (fun _ h9 => h9) rfl (by decide +kernel) rfl rfl (Nat.le_of_ble_eq_true rfl) dX9_readsPart_118 (fun H locs hP hD hS => ?_)
                          have hP : va_P D vwCl (wl_k_X9_readsPart cI cJ cK m0 a_row a_tape a_number a_read a_readBits a_stands a_parted a_bitsWere a_stood a_chosen a_bestChosen a_often a_sorted a_risen a_risenWays m_thrown (nI m_told) (nI m_taped) (nI m_at_18) (nI m_to) (nI m_many) (nI (m0_readMany_95 + 1)) m_fewest (nI m_size) mt g_32) H := hP
                          have hD : va_D A (wl_k_X9_readsPart cI cJ cK m0 a_row a_tape a_number a_read a_readBits a_stands a_parted a_bitsWere a_stood a_chosen a_bestChosen a_often a_sorted a_risen a_risenWays m_thrown (nI m_told) (nI m_taped) (nI m_at_18) (nI m_to) (nI m_many) (nI (m0_readMany_95 + 1)) m_fewest (nI m_size) mt g_32) := hD
                          refine lv_iinc (v := nI (k + 1)) (lv' := [(4, .int (nI (k + 1))), (3, .int (nI v_17)), (2, .int (nI v_1)), (1, .int (nI m_at)), (0, .ref m0)]) hx hb dX9_readsPart_121 hl (k := 0) rfl (my_incN k 1 (by decide +kernel)) (by decide) rfl (fun ls hl => ?_)
                          refine lv_goto (tgt := 95) hx hb dX9_readsPart_124 (by decide) ?_
                          exact ih95  (k + 1) (m0_readMany_95 + 1) g_32 (by omega) (by first | assumption | omega | decide +kernel) (by first | assumption | omega | decide +kernel) (by first | assumption | omega | decide +kernel) (fp_step hfp (by assumption) (by omega)) (by first | assumption | omega | decide +kernel) hR_g_32 _ _ ls hP hD hS (lv_sub hl [0, 1, 2, 3, 4] rfl)
                    exact loop95 ((v_17 - 0) + 1) 0 m_readMany md (Nat.lt_succ_self _) (by first | assumption | omega | decide +kernel) (by first | assumption | omega | decide +kernel) (by first | assumption | omega | decide +kernel) ((fb_put_0 _ _ _).symm) (by first | assumption | omega | decide +kernel) hR_md _ _ ls hP hD hS (lv_sub hl [0, 1, 2, 3, 4] rfl)
                  ·
                    have d87 : (mt m_at_18).toInt ≠ (44 : Int) := my_ne c87 rfl (by decide +kernel)
                    refine lv_iconst (v := 0) hx hb dX9_readsPart_90 (by decide +kernel) ?_
                    exact my_retZ hx hb hr hlocks (by decide +kernel) hK hS (wl_k_X9_readsPart cI cJ cK m0 a_row a_tape a_number a_read a_readBits a_stands a_parted a_bitsWere a_stood a_chosen a_bestChosen a_often a_sorted a_risen a_risenWays m_thrown (nI m_told) (nI m_taped) (nI m_at_18) (nI m_to) (nI m_many) (nI m_readMany) m_fewest (nI m_size) mt md) hP hD (Or.inr (⟨m_at_18, m_readMany, md, rfl, rfl, (by first | assumption | omega | trivial | decide +kernel), (by first | assumption | omega | trivial | decide +kernel), hR_md, (by first | assumption | omega | trivial | decide +kernel), (by first | assumption | omega | trivial | decide +kernel), (by intro q; first | (exfalso; omega) | exact hno q.1.1 | exact pt_Xno (by assumption) (by omega) (by assumption) hno q.1 | (have h9 := q.2.1; have h8 := hpt.2.1; omega) | (have h7 := q.2.2; rw [hpt.2.2.1] at h7; rcases h7 with h | h; (omega); (have h8 := isS_iff.mp h; omega)))⟩)) dX9_readsPart_91
              ·
                have d55 : ((m_readMany + v_17 : Nat) : Int) > (64 : Int) := my_nle c55 (nI_toInt (by omega)) (by decide +kernel)
                refine lv_aload_n hx hb dX9_readsPart_58 rfl (lv_at hl 3 rfl) ?_
                refine lv_iload_n hx hb dX9_readsPart_59 rfl (lv_at hl 2 rfl) ?_
                refine va_put (ci := 9) (v := .int (nI m_at)) (ty := (.int)) (C := RX9) (T := TX9) (N := 24) hx hb hts hi9 tyX9 tyX9_ok nmX9 hown hK hP hD hS 0 rfl rfl 5 (by decide) fl28 (fun _ h9 => h9) rfl (by decide +kernel) rfl rfl (Nat.le_of_ble_eq_true rfl) dX9_readsPart_60 (fun H locs hP hD hS => ?_)
                have hP : va_P D vwCl (wl_k_X9_readsPart cI cJ cK m0 a_row a_tape a_number a_read a_readBits a_stands a_parted a_bitsWere a_stood a_chosen a_bestChosen a_often a_sorted a_risen a_risenWays m_thrown (nI m_told) (nI m_taped) (nI m_at) (nI m_to) (nI m_many) (nI m_readMany) m_fewest (nI m_size) mt md) H := hP
                have hD : va_D A (wl_k_X9_readsPart cI cJ cK m0 a_row a_tape a_number a_read a_readBits a_stands a_parted a_bitsWere a_stood a_chosen a_bestChosen a_often a_sorted a_risen a_risenWays m_thrown (nI m_told) (nI m_taped) (nI m_at) (nI m_to) (nI m_many) (nI m_readMany) m_fewest (nI m_size) mt md) := hD
                refine lv_iconst (v := 0) hx hb dX9_readsPart_63 (by decide +kernel) ?_
                exact my_retZ hx hb hr hlocks (by decide +kernel) hK hS (wl_k_X9_readsPart cI cJ cK m0 a_row a_tape a_number a_read a_readBits a_stands a_parted a_bitsWere a_stood a_chosen a_bestChosen a_often a_sorted a_risen a_risenWays m_thrown (nI m_told) (nI m_taped) (nI m_at) (nI m_to) (nI m_many) (nI m_readMany) m_fewest (nI m_size) mt md) hP hD (Or.inr (⟨m_at, m_readMany, md, rfl, rfl, (by first | assumption | omega | trivial | decide +kernel), (by first | assumption | omega | trivial | decide +kernel), hR_md, (by first | assumption | omega | trivial | decide +kernel), (by first | assumption | omega | trivial | decide +kernel), (by intro q; first | (exfalso; omega) | exact hno q.1.1 | exact pt_Xno (by assumption) (by omega) (by assumption) hno q.1 | (have h9 := q.2.1; have h8 := hpt.2.1; omega) | (have h7 := q.2.2; rw [hpt.2.2.1] at h7; rcases h7 with h | h; (omega); (have h8 := isS_iff.mp h; omega)))⟩)) dX9_readsPart_64
            ·
              have d42 : ((v_17 : Nat) : Int) < (0 : Int) := my_nge c42 (nI_toInt (by omega)) (by decide +kernel)
              refine lv_iconst (v := 0) hx hb dX9_readsPart_45 (by decide +kernel) ?_
              exact my_retZ hx hb hr hlocks (by decide +kernel) hK hS (wl_k_X9_readsPart cI cJ cK m0 a_row a_tape a_number a_read a_readBits a_stands a_parted a_bitsWere a_stood a_chosen a_bestChosen a_often a_sorted a_risen a_risenWays m_thrown (nI m_told) (nI m_taped) (nI m_at_18) (nI m_to) (nI m_many) (nI m_readMany) m_fewest (nI m_size) mt md) hP hD (Or.inr (⟨m_at_18, m_readMany, md, rfl, rfl, (by first | assumption | omega | trivial | decide +kernel), (by first | assumption | omega | trivial | decide +kernel), hR_md, (by first | assumption | omega | trivial | decide +kernel), (by first | assumption | omega | trivial | decide +kernel), (by intro q; first | (exfalso; omega) | exact hno q.1.1 | exact pt_Xno (by assumption) (by omega) (by assumption) hno q.1 | (have h9 := q.2.1; have h8 := hpt.2.1; omega) | (have h7 := q.2.2; rw [hpt.2.2.1] at h7; rcases h7 with h | h; (omega); (have h8 := isS_iff.mp h; omega)))⟩)) dX9_readsPart_46
          ·
            obtain ⟨hP, hD⟩ := hPD rfl
            have hP : va_P D vwCl (wl_k_X9_readsPart cI cJ cK m0 a_row a_tape a_number a_read a_readBits a_stands a_parted a_bitsWere a_stood a_chosen a_bestChosen a_often a_sorted a_risen a_risenWays m_thrown (nI m_told) (nI m_taped) (nI m_at_26) (nI m_to) (nI m_many) (nI m_readMany) m_fewest (nI m_size) mt md) H := hP
            have hD : va_D A (wl_k_X9_readsPart cI cJ cK m0 a_row a_tape a_number a_read a_readBits a_stands a_parted a_bitsWere a_stood a_chosen a_bestChosen a_often a_sorted a_risen a_risenWays m_thrown (nI m_told) (nI m_taped) (nI m_at_26) (nI m_to) (nI m_many) (nI m_readMany) m_fewest (nI m_size) mt md) := hD
            refine lv_istore_n (lv' := [(3, .int (-1)), (2, .int (nI v_1)), (1, .int (nI m_at)), (0, .ref m0)]) hx hb dX9_readsPart_40 rfl hl (by decide) rfl (fun ls hl => ?_)
            refine lv_iload_n hx hb dX9_readsPart_41 rfl (lv_at hl 0 rfl) ?_
            refine lv_if_ge (tgt := 47) hx hb dX9_readsPart_42 (by decide) (fun c42 => ?_) (fun c42 => ?_)
            ·
              exact absurd c42 (by decide +kernel)
            ·
              refine lv_iconst (v := 0) hx hb dX9_readsPart_45 (by decide +kernel) ?_
              exact my_retZ hx hb hr hlocks (by decide +kernel) hK hS (wl_k_X9_readsPart cI cJ cK m0 a_row a_tape a_number a_read a_readBits a_stands a_parted a_bitsWere a_stood a_chosen a_bestChosen a_often a_sorted a_risen a_risenWays m_thrown (nI m_told) (nI m_taped) (nI m_at_26) (nI m_to) (nI m_many) (nI m_readMany) m_fewest (nI m_size) mt md) hP hD (Or.inr (⟨m_at_26, m_readMany, md, rfl, rfl, (by first | assumption | omega | trivial | decide +kernel), (by first | assumption | omega | trivial | decide +kernel), hR_md, (by first | assumption | omega | trivial | decide +kernel), (by first | assumption | omega | trivial | decide +kernel), (by intro q; first | (exfalso; omega) | exact hno q.1.1 | exact pt_Xno (by assumption) (by omega) (by assumption) hno q.1 | (have h9 := q.2.1; have h8 := hpt.2.1; omega) | (have h7 := q.2.2; rw [hpt.2.2.1] at h7; rcases h7 with h | h; (omega); (have h8 := isS_iff.mp h; omega)))⟩)) dX9_readsPart_46
      ·
        obtain ⟨hP, hD⟩ := hPD rfl
        have hP : va_P D vwCl (wl_k_X9_readsPart cI cJ cK m0 a_row a_tape a_number a_read a_readBits a_stands a_parted a_bitsWere a_stood a_chosen a_bestChosen a_often a_sorted a_risen a_risenWays m_thrown (nI m_told) (nI m_taped) (nI m_at_2) (nI m_to) (nI m_many) (nI m_readMany) m_fewest (nI m_size) mt md) H := hP
        have hD : va_D A (wl_k_X9_readsPart cI cJ cK m0 a_row a_tape a_number a_read a_readBits a_stands a_parted a_bitsWere a_stood a_chosen a_bestChosen a_often a_sorted a_risen a_risenWays m_thrown (nI m_told) (nI m_taped) (nI m_at_2) (nI m_to) (nI m_many) (nI m_readMany) m_fewest (nI m_size) mt md) := hD
        refine lv_if_eq (tgt := 47) hx hb dX9_readsPart_29 (by decide) (fun c29 => ?_) (fun c29 => ?_)
        ·
          have hpt : ptOk mt m_to m_at ∧ ptT mt m_to m_at = 1 ∧ ptE mt m_to m_at = m_at_2 ∧ ptV mt m_to m_at = v_1 := by first | (have q := pt_noX (f := mt) (n := m_to) (a := m_at) (by assumption) (by omega); exact ⟨q.2.2 hok1, q.1, q.2.1, by unfold ptV; symm; assumption⟩) | (have q := pt_X (f := mt) (n := m_to) (a := m_at) (by assumption) (by omega) (by assumption) (by assumption) (by assumption); exact ⟨q.2.2 hok1 hok, q.1, q.2.1, by unfold ptV; symm; assumption⟩)
          refine lv_aload_n hx hb dX9_readsPart_47 rfl (lv_at hl 3 rfl) ?_
          refine va_get (ci := 9) (v := .int (nI m_readMany)) (C := RX9) (T := TX9) (N := 24) hx hb hts hi9 hown hK hP 0 rfl rfl 10 (by decide) fl93 (fun _ h9 => h9) rfl dX9_readsPart_48 ?_
          refine lv_iload_n hx hb dX9_readsPart_51 rfl (lv_at hl 0 rfl) ?_
          refine lv_iadd hx hb dX9_readsPart_52 ?_
          refine my_eqi (y := nI (m_readMany + 1)) (my_addN m_readMany 1) ?_
          refine lv_bipush (v := 64) hx hb dX9_readsPart_53 (by decide +kernel) ?_
          refine lv_icmp_le (tgt := 65) hx hb dX9_readsPart_55 (by decide) (fun c55 => ?_) (fun c55 => ?_)
          ·
            have d55 : ((m_readMany + 1 : Nat) : Int) ≤ (64 : Int) := my_le c55 (nI_toInt (by omega)) (by decide +kernel)
            refine lv_aload_n hx hb dX9_readsPart_65 rfl (lv_at hl 3 rfl) ?_
            refine va_get (ci := 9) (v := .int (nI m_at_2)) (C := RX9) (T := TX9) (N := 24) hx hb hts hi9 hown hK hP 0 rfl rfl 5 (by decide) fl28 (fun _ h9 => h9) rfl dX9_readsPart_66 ?_
            refine lv_aload_n hx hb dX9_readsPart_69 rfl (lv_at hl 3 rfl) ?_
            refine va_get (ci := 9) (v := .int (nI m_to)) (C := RX9) (T := TX9) (N := 24) hx hb hts hi9 hown hK hP 0 rfl rfl 6 (by decide) fl25 (fun _ h9 => h9) rfl dX9_readsPart_70 ?_
            refine lv_icmp_ge (tgt := 92) hx hb dX9_readsPart_73 (by decide) (fun c73 => ?_) (fun c73 => ?_)
            ·
              have d73 : ((m_at_2 : Nat) : Int) ≥ ((m_to : Nat) : Int) := my_ge c73 (nI_toInt (by omega)) (nI_toInt (by omega))
              refine lv_iconst (v := 0) hx hb dX9_readsPart_92 (by decide +kernel) ?_
              refine lv_istore (lv' := [(4, .int 0), (3, .int 1), (2, .int (nI v_1)), (1, .int (nI m_at)), (0, .ref m0)]) hx hb dX9_readsPart_93 hl (by decide) rfl (fun ls hl => ?_)
              have loop95 : ∀ (n9 : Nat) (k : Nat) (m0_readMany_95 : Nat) (a_read_95 : Nat → Int32), 1 - k < n9 → (k ≤ 64) → (m0_readMany_95 = m_readMany + k) → (k ≤ 1) → (a_read_95 = fb_put md (fun _ => nI v_1) m_readMany k) → (m0_readMany_95 ≤ 64) → (RB 0 255 a_read_95) → ∀ (H : Heap) (locs : List Loc) (ls : Array Slot), va_P D vwCl (wl_k_X9_readsPart cI cJ cK m0 a_row a_tape a_number a_read a_readBits a_stands a_parted a_bitsWere a_stood a_chosen a_bestChosen a_often a_sorted a_risen a_risenWays m_thrown (nI m_told) (nI m_taped) (nI m_at_2) (nI m_to) (nI m_many) (nI m0_readMany_95) m_fewest (nI m_size) mt a_read_95) H → va_D A (wl_k_X9_readsPart cI cJ cK m0 a_row a_tape a_number a_read a_readBits a_stands a_parted a_bitsWere a_stood a_chosen a_bestChosen a_often a_sorted a_risen a_risenWays m_thrown (nI m_told) (nI m_taped) (nI m_at_2) (nI m_to) (nI m_many) (nI m0_readMany_95) m_fewest (nI m_size) mt a_read_95) → va_S A s.heap H locs → lv_has ls 5 [(4, .int (nI k)), (3, .int 1), (2, .int (nI v_1)), (1, .int (nI m_at)), (0, .ref m0)] → W p l e ({ frames := 3, cells := 0, slots := 0, locals := 180 } : Room) s m [.ref m0].toArray below meth c H locs 0 0 (MQ below (va_Qi (fun (r : Int32) (u : va_W) => (∃ (m_at' : Nat) (m_readMany' : Nat) (md' : Nat → Int32), u = (wl_k_X9_readsPart cI cJ cK m0 a_row a_tape a_number a_read a_readBits a_stands a_parted a_bitsWere a_stood a_chosen a_bestChosen a_often a_sorted a_risen a_risenWays m_thrown (nI m_told) (nI m_taped) (nI m_at') (nI m_to) (nI m_many) (nI m_readMany') m_fewest (nI m_size) mt md') ∧ r = 1 ∧ m_at' ≤ 100 ∧ m_readMany' ≤ 64 ∧ RB 0 255 md' ∧ ptOk mt m_to m_at ∧ m_readMany' = m_readMany + ptT mt m_to m_at ∧ m_at' = ptE mt m_to m_at ∧ m_at' ≤ m_to ∧ m_at < m_at' ∧ md' = fb_put md (fun _ => nI (ptV mt m_to m_at)) m_readMany (ptT mt m_to m_at) ∧ (m_to ≤ m_at' ∨ (mt m_at').toInt = 44)) ∨ (∃ (m_at' : Nat) (m_readMany' : Nat) (md' : Nat → Int32), u = (wl_k_X9_readsPart cI cJ cK m0 a_row a_tape a_number a_read a_readBits a_stands a_parted a_bitsWere a_stood a_chosen a_bestChosen a_often a_sorted a_risen a_risenWays m_thrown (nI m_told) (nI m_taped) (nI m_at') (nI m_to) (nI m_many) (nI m_readMany') m_fewest (nI m_size) mt md') ∧ r = 0 ∧ m_at' ≤ 100 ∧ m_readMany' ≤ 64 ∧ RB 0 255 md' ∧ m_at ≤ m_at' ∧ m_at' ≤ m_to ∧ (¬ (ptOk mt m_to m_at ∧ m_readMany + ptT mt m_to m_at ≤ 64 ∧ (m_to ≤ ptE mt m_to m_at ∨ isS mt m_to (ptE mt m_to m_at) 44 = true))))) (my_B D (tyIJ cI cJ cK) A) A) [.ref m0].toArray s 0 0 A) (F0 m 95 ls []) := by
                intro n9
                induction n9 with
                | zero =>
                  intro k m0_readMany_95 a_read_95 hn9
                  exact absurd hn9 (Nat.not_lt_zero _)
                | succ n9 ih95 =>
                  intro k m0_readMany_95 a_read_95 hn9 hk_k hs hk2 hfp hz_m0_readMany_95 hR_a_read_95 H locs ls hP hD hS hl
                  refine lv_iload hx hb dX9_readsPart_95 (lv_at hl 0 rfl) ?_
                  refine lv_iload_n hx hb dX9_readsPart_97 rfl (lv_at hl 1 rfl) ?_
                  refine lv_icmp_ge (tgt := 127) hx hb dX9_readsPart_98 (by decide) (fun c98 => ?_) (fun c98 => ?_)
                  ·
                    have d98 : ((k : Nat) : Int) ≥ (1 : Int) := my_ge c98 (nI_toInt (by omega)) (by decide +kernel)
                    refine lv_iconst (v := 1) hx hb dX9_readsPart_127 (by decide +kernel) ?_
                    exact my_retZ hx hb hr hlocks (by decide +kernel) hK hS (wl_k_X9_readsPart cI cJ cK m0 a_row a_tape a_number a_read a_readBits a_stands a_parted a_bitsWere a_stood a_chosen a_bestChosen a_often a_sorted a_risen a_risenWays m_thrown (nI m_told) (nI m_taped) (nI m_at_2) (nI m_to) (nI m_many) (nI m0_readMany_95) m_fewest (nI m_size) mt a_read_95) hP hD (Or.inl ⟨m_at_2, m0_readMany_95, a_read_95, rfl, rfl, (by first | assumption | omega | trivial | decide +kernel), (by first | assumption | omega | trivial | decide +kernel), hR_a_read_95, hpt.1, (by have h9 := hpt.2.1; omega), (by have h9 := hpt.2.2.1; omega), (by first | assumption | omega | trivial | decide +kernel), (by have h9 := hpt.2.2.1; have h8 := ptE_gt hpt.1; omega), (by rw [hpt.2.1, hpt.2.2.2]; refine hfp.trans ?_; congr 1; omega), (by first | assumption | omega | trivial | decide +kernel)⟩) dX9_readsPart_128
                  ·
                    have d98 : ((k : Nat) : Int) < (1 : Int) := my_nge c98 (nI_toInt (by omega)) (by decide +kernel)
                    refine lv_aload_n hx hb dX9_readsPart_101 rfl (lv_at hl 4 rfl) ?_
                    refine va_get (ci := 9) (v := .ref a_read) (C := RX9) (T := TX9) (N := 24) hx hb hts hi9 hown hK hP 0 rfl rfl 9 (by decide) fl52 (fun _ h9 => h9) rfl dX9_readsPart_102 ?_
                    refine lv_aload_n hx hb dX9_readsPart_105 rfl (lv_at hl 4 rfl) ?_
                    refine va_get (ci := 9) (v := .int (nI m0_readMany_95)) (C := RX9) (T := TX9) (N := 24) hx hb hts hi9 hown hK hP 0 rfl rfl 10 (by decide) fl93 (fun _ h9 => h9) rfl dX9_readsPart_106 ?_
                    refine lv_iload_n hx hb dX9_readsPart_109 rfl (lv_at hl 2 rfl) ?_
                    refine va_iast hx hb hK hP hD hS 2 0 rfl rfl (vp_in_nI (by omega) (by omega)) dX9_readsPart_110 (fun H locs hP hD hS => ?_)
                    obtain ⟨g_33, eg_33⟩ : ∃ g : Nat → Int32, g = upd a_read_95 m0_readMany_95 (nI v_1) := ⟨_, rfl⟩
                    have eU : upd a_read_95 (nI m0_readMany_95 : Int32).toNatClampNeg (nI v_1) = g_33 := by rw [eg_33, show (nI m0_readMany_95 : Int32).toNatClampNeg = m0_readMany_95 from nI_clamp (by omega)]
                    rw [eU] at hP hD
                    have hR_g_33 : RB 0 255 g_33 := by rw [eg_33]; exact hR_a_read_95.upd (nI_toInt (by omega)) (by omega) (by omega)
                    have hP : va_P D vwCl (wl_k_X9_readsPart cI cJ cK m0 a_row a_tape a_number a_read a_readBits a_stands a_parted a_bitsWere a_stood a_chosen a_bestChosen a_often a_sorted a_risen a_risenWays m_thrown (nI m_told) (nI m_taped) (nI m_at_2) (nI m_to) (nI m_many) (nI m0_readMany_95) m_fewest (nI m_size) mt g_33) H := hP
                    have hD : va_D A (wl_k_X9_readsPart cI cJ cK m0 a_row a_tape a_number a_read a_readBits a_stands a_parted a_bitsWere a_stood a_chosen a_bestChosen a_often a_sorted a_risen a_risenWays m_thrown (nI m_told) (nI m_taped) (nI m_at_2) (nI m_to) (nI m_many) (nI m0_readMany_95) m_fewest (nI m_size) mt g_33) := hD
                    refine lv_aload_n hx hb dX9_readsPart_111 rfl (lv_at hl 4 rfl) ?_
                    refine lv_dup hx hb dX9_readsPart_112 rfl ?_
                    refine va_get (ci := 9) (v := .int (nI m0_readMany_95)) (C := RX9) (T := TX9) (N := 24) hx hb hts hi9 hown hK hP 0 rfl rfl 10 (by decide) fl93 (fun _ h9 => h9) rfl dX9_readsPart_113 ?_
                    refine lv_iconst (v := 1) hx hb dX9_readsPart_116 (by decide +kernel) ?_
                    refine lv_iadd hx hb dX9_readsPart_117 ?_
                    refine my_eqi (y := nI (m0_readMany_95 + 1)) (my_addN m0_readMany_95 1) ?_
                    refine va_put (ci := 9) (v := .int (nI (m0_readMany_95 + 1))) (ty := (.int)) (C := RX9) (T := TX9) (N := 24) hx hb hts hi9 tyX9 tyX9_ok nmX9 hown hK hP hD hS 0 rfl rfl 10 (by decide) fl93 (fun _ h9 => h9) rfl (by decide +kernel) rfl rfl (Nat.le_of_ble_eq_true rfl) dX9_readsPart_118 (fun H locs hP hD hS => ?_)
                    have hP : va_P D vwCl (wl_k_X9_readsPart cI cJ cK m0 a_row a_tape a_number a_read a_readBits a_stands a_parted a_bitsWere a_stood a_chosen a_bestChosen a_often a_sorted a_risen a_risenWays m_thrown (nI m_told) (nI m_taped) (nI m_at_2) (nI m_to) (nI m_many) (nI (m0_readMany_95 + 1)) m_fewest (nI m_size) mt g_33) H := hP
                    have hD : va_D A (wl_k_X9_readsPart cI cJ cK m0 a_row a_tape a_number a_read a_readBits a_stands a_parted a_bitsWere a_stood a_chosen a_bestChosen a_often a_sorted a_risen a_risenWays m_thrown (nI m_told) (nI m_taped) (nI m_at_2) (nI m_to) (nI m_many) (nI (m0_readMany_95 + 1)) m_fewest (nI m_size) mt g_33) := hD
                    refine lv_iinc (v := nI (k + 1)) (lv' := [(4, .int (nI (k + 1))), (3, .int 1), (2, .int (nI v_1)), (1, .int (nI m_at)), (0, .ref m0)]) hx hb dX9_readsPart_121 hl (k := 0) rfl (my_incN k 1 (by decide +kernel)) (by decide) rfl (fun ls hl => ?_)
                    refine lv_goto (tgt := 95) hx hb dX9_readsPart_124 (by decide) ?_
                    exact ih95  (k + 1) (m0_readMany_95 + 1) g_33 (by omega) (by first | assumption | omega | decide +kernel) (by first | assumption | omega | decide +kernel) (by first | assumption | omega | decide +kernel) (fp_step hfp (by assumption) (by omega)) (by first | assumption | omega | decide +kernel) hR_g_33 _ _ ls hP hD hS (lv_sub hl [0, 1, 2, 3, 4] rfl)
              exact loop95 ((1 - 0) + 1) 0 m_readMany md (Nat.lt_succ_self _) (by first | assumption | omega | decide +kernel) (by first | assumption | omega | decide +kernel) (by first | assumption | omega | decide +kernel) ((fb_put_0 _ _ _).symm) (by first | assumption | omega | decide +kernel) hR_md _ _ ls hP hD hS (lv_sub hl [0, 1, 2, 3, 4] rfl)
            ·
              have d73 : ((m_at_2 : Nat) : Int) < ((m_to : Nat) : Int) := my_nge c73 (nI_toInt (by omega)) (nI_toInt (by omega))
              refine lv_aload_n hx hb dX9_readsPart_76 rfl (lv_at hl 3 rfl) ?_
              refine va_get (ci := 9) (v := .ref a_tape) (C := RX9) (T := TX9) (N := 24) hx hb hts hi9 hown hK hP 0 rfl rfl 3 (by decide) fl17 (fun _ h9 => h9) rfl dX9_readsPart_77 ?_
              refine lv_aload_n hx hb dX9_readsPart_80 rfl (lv_at hl 3 rfl) ?_
              refine va_get (ci := 9) (v := .int (nI m_at_2)) (C := RX9) (T := TX9) (N := 24) hx hb hts hi9 hown hK hP 0 rfl rfl 5 (by decide) fl28 (fun _ h9 => h9) rfl dX9_readsPart_81 ?_
              refine va_iald hx hb hK hP 1 0 rfl rfl (vp_in_nI (by omega) (by omega)) dX9_readsPart_84 ?_
              refine my_eqi (y := mt m_at_2) (congrArg mt (nI_clamp (by omega))) ?_
              have hb_34 := hR_mt m_at_2
              refine lv_bipush (v := 44) hx hb dX9_readsPart_85 (by decide +kernel) ?_
              refine lv_icmp_eq (tgt := 92) hx hb dX9_readsPart_87 (by decide) (fun c87 => ?_) (fun c87 => ?_)
              ·
                have d87 : (mt m_at_2).toInt = (44 : Int) := my_eq c87 rfl (by decide +kernel)
                refine lv_iconst (v := 0) hx hb dX9_readsPart_92 (by decide +kernel) ?_
                refine lv_istore (lv' := [(4, .int 0), (3, .int 1), (2, .int (nI v_1)), (1, .int (nI m_at)), (0, .ref m0)]) hx hb dX9_readsPart_93 hl (by decide) rfl (fun ls hl => ?_)
                have loop95 : ∀ (n9 : Nat) (k : Nat) (m0_readMany_95 : Nat) (a_read_95 : Nat → Int32), 1 - k < n9 → (k ≤ 64) → (m0_readMany_95 = m_readMany + k) → (k ≤ 1) → (a_read_95 = fb_put md (fun _ => nI v_1) m_readMany k) → (m0_readMany_95 ≤ 64) → (RB 0 255 a_read_95) → ∀ (H : Heap) (locs : List Loc) (ls : Array Slot), va_P D vwCl (wl_k_X9_readsPart cI cJ cK m0 a_row a_tape a_number a_read a_readBits a_stands a_parted a_bitsWere a_stood a_chosen a_bestChosen a_often a_sorted a_risen a_risenWays m_thrown (nI m_told) (nI m_taped) (nI m_at_2) (nI m_to) (nI m_many) (nI m0_readMany_95) m_fewest (nI m_size) mt a_read_95) H → va_D A (wl_k_X9_readsPart cI cJ cK m0 a_row a_tape a_number a_read a_readBits a_stands a_parted a_bitsWere a_stood a_chosen a_bestChosen a_often a_sorted a_risen a_risenWays m_thrown (nI m_told) (nI m_taped) (nI m_at_2) (nI m_to) (nI m_many) (nI m0_readMany_95) m_fewest (nI m_size) mt a_read_95) → va_S A s.heap H locs → lv_has ls 5 [(4, .int (nI k)), (3, .int 1), (2, .int (nI v_1)), (1, .int (nI m_at)), (0, .ref m0)] → W p l e ({ frames := 3, cells := 0, slots := 0, locals := 180 } : Room) s m [.ref m0].toArray below meth c H locs 0 0 (MQ below (va_Qi (fun (r : Int32) (u : va_W) => (∃ (m_at' : Nat) (m_readMany' : Nat) (md' : Nat → Int32), u = (wl_k_X9_readsPart cI cJ cK m0 a_row a_tape a_number a_read a_readBits a_stands a_parted a_bitsWere a_stood a_chosen a_bestChosen a_often a_sorted a_risen a_risenWays m_thrown (nI m_told) (nI m_taped) (nI m_at') (nI m_to) (nI m_many) (nI m_readMany') m_fewest (nI m_size) mt md') ∧ r = 1 ∧ m_at' ≤ 100 ∧ m_readMany' ≤ 64 ∧ RB 0 255 md' ∧ ptOk mt m_to m_at ∧ m_readMany' = m_readMany + ptT mt m_to m_at ∧ m_at' = ptE mt m_to m_at ∧ m_at' ≤ m_to ∧ m_at < m_at' ∧ md' = fb_put md (fun _ => nI (ptV mt m_to m_at)) m_readMany (ptT mt m_to m_at) ∧ (m_to ≤ m_at' ∨ (mt m_at').toInt = 44)) ∨ (∃ (m_at' : Nat) (m_readMany' : Nat) (md' : Nat → Int32), u = (wl_k_X9_readsPart cI cJ cK m0 a_row a_tape a_number a_read a_readBits a_stands a_parted a_bitsWere a_stood a_chosen a_bestChosen a_often a_sorted a_risen a_risenWays m_thrown (nI m_told) (nI m_taped) (nI m_at') (nI m_to) (nI m_many) (nI m_readMany') m_fewest (nI m_size) mt md') ∧ r = 0 ∧ m_at' ≤ 100 ∧ m_readMany' ≤ 64 ∧ RB 0 255 md' ∧ m_at ≤ m_at' ∧ m_at' ≤ m_to ∧ (¬ (ptOk mt m_to m_at ∧ m_readMany + ptT mt m_to m_at ≤ 64 ∧ (m_to ≤ ptE mt m_to m_at ∨ isS mt m_to (ptE mt m_to m_at) 44 = true))))) (my_B D (tyIJ cI cJ cK) A) A) [.ref m0].toArray s 0 0 A) (F0 m 95 ls []) := by
                  intro n9
                  induction n9 with
                  | zero =>
                    intro k m0_readMany_95 a_read_95 hn9
                    exact absurd hn9 (Nat.not_lt_zero _)
                  | succ n9 ih95 =>
                    intro k m0_readMany_95 a_read_95 hn9 hk_k hs hk2 hfp hz_m0_readMany_95 hR_a_read_95 H locs ls hP hD hS hl
                    refine lv_iload hx hb dX9_readsPart_95 (lv_at hl 0 rfl) ?_
                    refine lv_iload_n hx hb dX9_readsPart_97 rfl (lv_at hl 1 rfl) ?_
                    refine lv_icmp_ge (tgt := 127) hx hb dX9_readsPart_98 (by decide) (fun c98 => ?_) (fun c98 => ?_)
                    ·
                      have d98 : ((k : Nat) : Int) ≥ (1 : Int) := my_ge c98 (nI_toInt (by omega)) (by decide +kernel)
                      refine lv_iconst (v := 1) hx hb dX9_readsPart_127 (by decide +kernel) ?_
                      exact my_retZ hx hb hr hlocks (by decide +kernel) hK hS (wl_k_X9_readsPart cI cJ cK m0 a_row a_tape a_number a_read a_readBits a_stands a_parted a_bitsWere a_stood a_chosen a_bestChosen a_often a_sorted a_risen a_risenWays m_thrown (nI m_told) (nI m_taped) (nI m_at_2) (nI m_to) (nI m_many) (nI m0_readMany_95) m_fewest (nI m_size) mt a_read_95) hP hD (Or.inl ⟨m_at_2, m0_readMany_95, a_read_95, rfl, rfl, (by first | assumption | omega | trivial | decide +kernel), (by first | assumption | omega | trivial | decide +kernel), hR_a_read_95, hpt.1, (by have h9 := hpt.2.1; omega), (by have h9 := hpt.2.2.1; omega), (by first | assumption | omega | trivial | decide +kernel), (by have h9 := hpt.2.2.1; have h8 := ptE_gt hpt.1; omega), (by rw [hpt.2.1, hpt.2.2.2]; refine hfp.trans ?_; congr 1; omega), (by first | assumption | omega | trivial | decide +kernel)⟩) dX9_readsPart_128
                    ·
                      have d98 : ((k : Nat) : Int) < (1 : Int) := my_nge c98 (nI_toInt (by omega)) (by decide +kernel)
                      refine lv_aload_n hx hb dX9_readsPart_101 rfl (lv_at hl 4 rfl) ?_
                      refine va_get (ci := 9) (v := .ref a_read) (C := RX9) (T := TX9) (N := 24) hx hb hts hi9 hown hK hP 0 rfl rfl 9 (by decide) fl52 (fun _ h9 => h9) rfl dX9_readsPart_102 ?_
                      refine lv_aload_n hx hb dX9_readsPart_105 rfl (lv_at hl 4 rfl) ?_
                      refine va_get (ci := 9) (v := .int (nI m0_readMany_95)) (C := RX9) (T := TX9) (N := 24) hx hb hts hi9 hown hK hP 0 rfl rfl 10 (by decide) fl93 (fun _ h9 => h9) rfl dX9_readsPart_106 ?_
                      refine lv_iload_n hx hb dX9_readsPart_109 rfl (lv_at hl 2 rfl) ?_
                      refine va_iast hx hb hK hP hD hS 2 0 rfl rfl (vp_in_nI (by omega) (by omega)) dX9_readsPart_110 (fun H locs hP hD hS => ?_)
                      obtain ⟨g_35, eg_35⟩ : ∃ g : Nat → Int32, g = upd a_read_95 m0_readMany_95 (nI v_1) := ⟨_, rfl⟩
                      have eU : upd a_read_95 (nI m0_readMany_95 : Int32).toNatClampNeg (nI v_1) = g_35 := by rw [eg_35, show (nI m0_readMany_95 : Int32).toNatClampNeg = m0_readMany_95 from nI_clamp (by omega)]
                      rw [eU] at hP hD
                      have hR_g_35 : RB 0 255 g_35 := by rw [eg_35]; exact hR_a_read_95.upd (nI_toInt (by omega)) (by omega) (by omega)
                      have hP : va_P D vwCl (wl_k_X9_readsPart cI cJ cK m0 a_row a_tape a_number a_read a_readBits a_stands a_parted a_bitsWere a_stood a_chosen a_bestChosen a_often a_sorted a_risen a_risenWays m_thrown (nI m_told) (nI m_taped) (nI m_at_2) (nI m_to) (nI m_many) (nI m0_readMany_95) m_fewest (nI m_size) mt g_35) H := hP
                      have hD : va_D A (wl_k_X9_readsPart cI cJ cK m0 a_row a_tape a_number a_read a_readBits a_stands a_parted a_bitsWere a_stood a_chosen a_bestChosen a_often a_sorted a_risen a_risenWays m_thrown (nI m_told) (nI m_taped) (nI m_at_2) (nI m_to) (nI m_many) (nI m0_readMany_95) m_fewest (nI m_size) mt g_35) := hD
                      refine lv_aload_n hx hb dX9_readsPart_111 rfl (lv_at hl 4 rfl) ?_
                      refine lv_dup hx hb dX9_readsPart_112 rfl ?_
                      refine va_get (ci := 9) (v := .int (nI m0_readMany_95)) (C := RX9) (T := TX9) (N := 24) hx hb hts hi9 hown hK hP 0 rfl rfl 10 (by decide) fl93 (fun _ h9 => h9) rfl dX9_readsPart_113 ?_
                      refine lv_iconst (v := 1) hx hb dX9_readsPart_116 (by decide +kernel) ?_
                      refine lv_iadd hx hb dX9_readsPart_117 ?_
                      refine my_eqi (y := nI (m0_readMany_95 + 1)) (my_addN m0_readMany_95 1) ?_
                      refine va_put (ci := 9) (v := .int (nI (m0_readMany_95 + 1))) (ty := (.int)) (C := RX9) (T := TX9) (N := 24) hx hb hts hi9 tyX9 tyX9_ok nmX9 hown hK hP hD hS 0 rfl rfl 10 (by decide) fl93 (fun _ h9 => h9) rfl (by decide +kernel) rfl rfl (Nat.le_of_ble_eq_true rfl) dX9_readsPart_118 (fun H locs hP hD hS => ?_)
                      have hP : va_P D vwCl (wl_k_X9_readsPart cI cJ cK m0 a_row a_tape a_number a_read a_readBits a_stands a_parted a_bitsWere a_stood a_chosen a_bestChosen a_often a_sorted a_risen a_risenWays m_thrown (nI m_told) (nI m_taped) (nI m_at_2) (nI m_to) (nI m_many) (nI (m0_readMany_95 + 1)) m_fewest (nI m_size) mt g_35) H := hP
                      have hD : va_D A (wl_k_X9_readsPart cI cJ cK m0 a_row a_tape a_number a_read a_readBits a_stands a_parted a_bitsWere a_stood a_chosen a_bestChosen a_often a_sorted a_risen a_risenWays m_thrown (nI m_told) (nI m_taped) (nI m_at_2) (nI m_to) (nI m_many) (nI (m0_readMany_95 + 1)) m_fewest (nI m_size) mt g_35) := hD
                      refine lv_iinc (v := nI (k + 1)) (lv' := [(4, .int (nI (k + 1))), (3, .int 1), (2, .int (nI v_1)), (1, .int (nI m_at)), (0, .ref m0)]) hx hb dX9_readsPart_121 hl (k := 0) rfl (my_incN k 1 (by decide +kernel)) (by decide) rfl (fun ls hl => ?_)
                      refine lv_goto (tgt := 95) hx hb dX9_readsPart_124 (by decide) ?_
                      exact ih95  (k + 1) (m0_readMany_95 + 1) g_35 (by omega) (by first | assumption | omega | decide +kernel) (by first | assumption | omega | decide +kernel) (by first | assumption | omega | decide +kernel) (fp_step hfp (by assumption) (by omega)) (by first | assumption | omega | decide +kernel) hR_g_35 _ _ ls hP hD hS (lv_sub hl [0, 1, 2, 3, 4] rfl)
                exact loop95 ((1 - 0) + 1) 0 m_readMany md (Nat.lt_succ_self _) (by first | assumption | omega | decide +kernel) (by first | assumption | omega | decide +kernel) (by first | assumption | omega | decide +kernel) ((fb_put_0 _ _ _).symm) (by first | assumption | omega | decide +kernel) hR_md _ _ ls hP hD hS (lv_sub hl [0, 1, 2, 3, 4] rfl)
              ·
                have d87 : (mt m_at_2).toInt ≠ (44 : Int) := my_ne c87 rfl (by decide +kernel)
                refine lv_iconst (v := 0) hx hb dX9_readsPart_90 (by decide +kernel) ?_
                exact my_retZ hx hb hr hlocks (by decide +kernel) hK hS (wl_k_X9_readsPart cI cJ cK m0 a_row a_tape a_number a_read a_readBits a_stands a_parted a_bitsWere a_stood a_chosen a_bestChosen a_often a_sorted a_risen a_risenWays m_thrown (nI m_told) (nI m_taped) (nI m_at_2) (nI m_to) (nI m_many) (nI m_readMany) m_fewest (nI m_size) mt md) hP hD (Or.inr (⟨m_at_2, m_readMany, md, rfl, rfl, (by first | assumption | omega | trivial | decide +kernel), (by first | assumption | omega | trivial | decide +kernel), hR_md, (by first | assumption | omega | trivial | decide +kernel), (by first | assumption | omega | trivial | decide +kernel), (by intro q; first | (exfalso; omega) | exact hno q.1.1 | exact pt_Xno (by assumption) (by omega) (by assumption) hno q.1 | (have h9 := q.2.1; have h8 := hpt.2.1; omega) | (have h7 := q.2.2; rw [hpt.2.2.1] at h7; rcases h7 with h | h; (omega); (have h8 := isS_iff.mp h; omega)))⟩)) dX9_readsPart_91
          ·
            have d55 : ((m_readMany + 1 : Nat) : Int) > (64 : Int) := my_nle c55 (nI_toInt (by omega)) (by decide +kernel)
            refine lv_aload_n hx hb dX9_readsPart_58 rfl (lv_at hl 3 rfl) ?_
            refine lv_iload_n hx hb dX9_readsPart_59 rfl (lv_at hl 2 rfl) ?_
            refine va_put (ci := 9) (v := .int (nI m_at)) (ty := (.int)) (C := RX9) (T := TX9) (N := 24) hx hb hts hi9 tyX9 tyX9_ok nmX9 hown hK hP hD hS 0 rfl rfl 5 (by decide) fl28 (fun _ h9 => h9) rfl (by decide +kernel) rfl rfl (Nat.le_of_ble_eq_true rfl) dX9_readsPart_60 (fun H locs hP hD hS => ?_)
            have hP : va_P D vwCl (wl_k_X9_readsPart cI cJ cK m0 a_row a_tape a_number a_read a_readBits a_stands a_parted a_bitsWere a_stood a_chosen a_bestChosen a_often a_sorted a_risen a_risenWays m_thrown (nI m_told) (nI m_taped) (nI m_at) (nI m_to) (nI m_many) (nI m_readMany) m_fewest (nI m_size) mt md) H := hP
            have hD : va_D A (wl_k_X9_readsPart cI cJ cK m0 a_row a_tape a_number a_read a_readBits a_stands a_parted a_bitsWere a_stood a_chosen a_bestChosen a_often a_sorted a_risen a_risenWays m_thrown (nI m_told) (nI m_taped) (nI m_at) (nI m_to) (nI m_many) (nI m_readMany) m_fewest (nI m_size) mt md) := hD
            refine lv_iconst (v := 0) hx hb dX9_readsPart_63 (by decide +kernel) ?_
            exact my_retZ hx hb hr hlocks (by decide +kernel) hK hS (wl_k_X9_readsPart cI cJ cK m0 a_row a_tape a_number a_read a_readBits a_stands a_parted a_bitsWere a_stood a_chosen a_bestChosen a_often a_sorted a_risen a_risenWays m_thrown (nI m_told) (nI m_taped) (nI m_at) (nI m_to) (nI m_many) (nI m_readMany) m_fewest (nI m_size) mt md) hP hD (Or.inr (⟨m_at, m_readMany, md, rfl, rfl, (by first | assumption | omega | trivial | decide +kernel), (by first | assumption | omega | trivial | decide +kernel), hR_md, (by first | assumption | omega | trivial | decide +kernel), (by first | assumption | omega | trivial | decide +kernel), (by intro q; first | (exfalso; omega) | exact hno q.1.1 | exact pt_Xno (by assumption) (by omega) (by assumption) hno q.1 | (have h9 := q.2.1; have h8 := hpt.2.1; omega) | (have h7 := q.2.2; rw [hpt.2.2.1] at h7; rcases h7 with h | h; (omega); (have h8 := isS_iff.mp h; omega)))⟩)) dX9_readsPart_64
        ·
          exact absurd c29 (by decide +kernel)
    ·
      have d16 : ((v_1 : Nat) : Int) < (0 : Int) := my_nge c16 (nI_toInt (by omega)) (by decide +kernel)
      refine lv_iconst (v := 0) hx hb dX9_readsPart_19 (by decide +kernel) ?_
      exact my_retZ hx hb hr hlocks (by decide +kernel) hK hS (wl_k_X9_readsPart cI cJ cK m0 a_row a_tape a_number a_read a_readBits a_stands a_parted a_bitsWere a_stood a_chosen a_bestChosen a_often a_sorted a_risen a_risenWays m_thrown (nI m_told) (nI m_taped) (nI m_at_2) (nI m_to) (nI m_many) (nI m_readMany) m_fewest (nI m_size) mt md) hP hD (Or.inr (⟨m_at_2, m_readMany, md, rfl, rfl, (by first | assumption | omega | trivial | decide +kernel), (by first | assumption | omega | trivial | decide +kernel), hR_md, (by first | assumption | omega | trivial | decide +kernel), (by first | assumption | omega | trivial | decide +kernel), (by intro q; first | (exfalso; omega) | exact hno q.1.1 | exact pt_Xno (by assumption) (by omega) (by assumption) hno q.1 | (have h9 := q.2.1; have h8 := hpt.2.1; omega) | (have h7 := q.2.2; rw [hpt.2.2.1] at h7; rcases h7 with h | h; (omega); (have h8 := isS_iff.mp h; omega)))⟩)) dX9_readsPart_20
  ·
    obtain ⟨hP, hD⟩ := hPD rfl
    have hP : va_P D vwCl (wl_k_X9_readsPart cI cJ cK m0 a_row a_tape a_number a_read a_readBits a_stands a_parted a_bitsWere a_stood a_chosen a_bestChosen a_often a_sorted a_risen a_risenWays m_thrown (nI m_told) (nI m_taped) (nI m_at_10) (nI m_to) (nI m_many) (nI m_readMany) m_fewest (nI m_size) mt md) H := hP
    have hD : va_D A (wl_k_X9_readsPart cI cJ cK m0 a_row a_tape a_number a_read a_readBits a_stands a_parted a_bitsWere a_stood a_chosen a_bestChosen a_often a_sorted a_risen a_risenWays m_thrown (nI m_told) (nI m_taped) (nI m_at_10) (nI m_to) (nI m_many) (nI m_readMany) m_fewest (nI m_size) mt md) := hD
    try have hok1 := hok
    refine lv_istore_n (lv' := [(2, .int (-1)), (1, .int (nI m_at)), (0, .ref m0)]) hx hb dX9_readsPart_14 rfl hl (by decide) rfl (fun ls hl => ?_)
    refine lv_iload_n hx hb dX9_readsPart_15 rfl (lv_at hl 0 rfl) ?_
    refine lv_if_ge (tgt := 21) hx hb dX9_readsPart_16 (by decide) (fun c16 => ?_) (fun c16 => ?_)
    ·
      exact absurd c16 (by decide +kernel)
    ·
      refine lv_iconst (v := 0) hx hb dX9_readsPart_19 (by decide +kernel) ?_
      exact my_retZ hx hb hr hlocks (by decide +kernel) hK hS (wl_k_X9_readsPart cI cJ cK m0 a_row a_tape a_number a_read a_readBits a_stands a_parted a_bitsWere a_stood a_chosen a_bestChosen a_often a_sorted a_risen a_risenWays m_thrown (nI m_told) (nI m_taped) (nI m_at_10) (nI m_to) (nI m_many) (nI m_readMany) m_fewest (nI m_size) mt md) hP hD (Or.inr (⟨m_at_10, m_readMany, md, rfl, rfl, (by first | assumption | omega | trivial | decide +kernel), (by first | assumption | omega | trivial | decide +kernel), hR_md, (by first | assumption | omega | trivial | decide +kernel), (by first | assumption | omega | trivial | decide +kernel), (by intro q; first | (exfalso; omega) | exact hno q.1.1 | exact pt_Xno (by assumption) (by omega) (by assumption) hno q.1 | (have h9 := q.2.1; have h8 := hpt.2.1; omega) | (have h7 := q.2.2; rw [hpt.2.2.1] at h7; rcases h7 with h | h; (omega); (have h8 := isS_iff.mp h; omega)))⟩)) dX9_readsPart_20
abbrev wl_k_X9_column (cI cJ cK : ClassId) (m0 : Nat) (a_row : Nat) (a_tape : Nat) (a_number : Nat) (a_read : Nat) (a_readBits : Nat) (a_stands : Nat) (a_parted : Nat) (a_bitsWere : Nat) (a_stood : Nat) (a_chosen : Nat) (a_bestChosen : Nat) (a_often : Nat) (a_sorted : Nat) (a_risen : Nat) (a_risenWays : Nat) (v0_ : Int32) (v1_ : Int32) (v2_ : Int32) (v3_ : Int32) (v4_ : Int32) (v5_ : Int32) (v6_ : Int32) (v7_ : Int32) (v8_ : Int32) (v9_ : Nat → Int32) (v10_ : Nat → Int32) (v11_ : Nat → Int32) : va_W := [(m0, .inr (9, [.int v0_, .int v1_, .ref a_row, .ref a_tape, .int v2_, .int v3_, .int v4_, .int v5_, .ref a_number, .ref a_read, .int v6_, .ref a_readBits, .ref a_stands, .ref a_parted, .ref a_bitsWere, .ref a_stood, .ref a_chosen, .ref a_bestChosen, .int v7_, .ref a_often, .ref a_sorted, .int v8_, .ref a_risen, .ref a_risenWays])), (a_tape, .inl (cI, 100, .inl v9_)), (a_read, .inl (cI, 64, .inl v10_)), (a_number, .inl (cI, 64, .inl v11_))]
set_option maxHeartbeats 4000000 in
set_option maxRecDepth 100000 in
theorem k_X9_column (l : Launch) (D : va_G) (cI cJ cK : ClassId) (m0 : Nat) (a_row : Nat) (a_tape : Nat) (a_number : Nat) (a_read : Nat) (a_readBits : Nat) (a_stands : Nat) (a_parted : Nat) (a_bitsWere : Nat) (a_stood : Nat) (a_chosen : Nat) (a_bestChosen : Nat) (a_often : Nat) (a_sorted : Nat) (a_risen : Nat) (a_risenWays : Nat) (m_thrown : Int32) (m_told : Nat) (m_taped : Nat) (m_at : Nat) (m_to : Nat) (m_many : Nat) (m_readMany : Nat) (m_fewest : Int32) (m_size : Nat) (mt : Nat → Int32) (md : Nat → Int32) (mn : Nat → Int32) (hz_m_told : m_told ≤ 64) (hz_m_taped : m_taped ≤ 100) (hz_m_at : m_at ≤ 100) (hz_m_to : m_to ≤ 100) (hz_m_many : m_many ≤ 64) (hz_m_readMany : m_readMany ≤ 64) (hz_m_size : m_size ≤ 64) (hR_mt : RB 0 255 mt) (hR_md : RB 0 255 md) (hR_mn : RB 0 255 mn) : ctI l yX9_column wsX9_column ({ frames := 4, cells := 0, slots := 0, locals := 240 } : Room) D (tyIJ cI cJ cK) [.ref m0] (wl_k_X9_column cI cJ cK m0 a_row a_tape a_number a_read a_readBits a_stands a_parted a_bitsWere a_stood a_chosen a_bestChosen a_often a_sorted a_risen a_risenWays m_thrown (nI m_told) (nI m_taped) (nI m_at) (nI m_to) (nI m_many) (nI m_readMany) m_fewest (nI m_size) mt md mn) (fun (r : Int32) (u : va_W) => (∃ (m_thrown' : Int32) (m_taped' : Nat) (m_at' : Nat) (m_to' : Nat) (m_many' : Nat) (m_readMany' : Nat) (md' : Nat → Int32) (mn' : Nat → Int32), u = (wl_k_X9_column cI cJ cK m0 a_row a_tape a_number a_read a_readBits a_stands a_parted a_bitsWere a_stood a_chosen a_bestChosen a_often a_sorted a_risen a_risenWays m_thrown' (nI m_told) (nI m_taped') (nI m_at') (nI m_to') (nI m_many') (nI m_readMany') m_fewest (nI m_size) mt md' mn') ∧ r = nI m_many' ∧ m_taped' ≤ 100 ∧ m_at' ≤ 100 ∧ m_to' ≤ 100 ∧ m_many' ≤ 64 ∧ m_readMany' ≤ 64 ∧ RB 0 255 md' ∧ RB 0 255 mn' ∧ m_taped' = 0 ∧ colOk mt m_taped ∧ m_many' = colN mt m_taped ∧ (∀ j, j < m_many' → mn' j = colF mt m_taped md j)) ∨ (∃ (m_thrown' : Int32) (m_taped' : Nat) (m_at' : Nat) (m_to' : Nat) (m_readMany' : Nat) (md' : Nat → Int32), u = (wl_k_X9_column cI cJ cK m0 a_row a_tape a_number a_read a_readBits a_stands a_parted a_bitsWere a_stood a_chosen a_bestChosen a_often a_sorted a_risen a_risenWays m_thrown' (nI m_told) (nI m_taped') (nI m_at') (nI m_to') (nI m_many) (nI m_readMany') m_fewest (nI m_size) mt md' mn) ∧ m_taped' ≤ 100 ∧ m_at' ≤ 100 ∧ m_to' ≤ 100 ∧ m_readMany' ≤ 64 ∧ RB 0 255 md' ∧ m_taped' = 0 ∧ ¬ colOk mt m_taped)) := by
  refine ctI.of (cc := cX9_column) (maxL := 2) (ret := (some .int)) (by decide) rfl (Nat.le_of_ble_eq_true rfl) ?_
  intro p e s m below meth c ls A hx hb hr hts hown hml hlocks hname hA hK hN hP hD hS hl
  have hl : lv_has ls 2 [(0, .ref m0)] := hl
  have hown : s.vm.findClass RX9 = some m.cls := hown
  have hi9 : ∀ w ∈ u_ws RX9 TX9 24, w ∈ wsX9_column := by decide +kernel
  have fl1 := hts (.fieldLink RX9 1 "PlaneColumnModel" "thrown" "I") (by decide +kernel)
  have fl25 := hts (.fieldLink RX9 25 "PlaneColumnModel" "to" "I") (by decide +kernel)
  have fl28 := hts (.fieldLink RX9 28 "PlaneColumnModel" "at" "I") (by decide +kernel)
  have fl88 := hts (.fieldLink RX9 88 "PlaneColumnModel" "many" "I") (by decide +kernel)
  have fl93 := hts (.fieldLink RX9 93 "PlaneColumnModel" "readMany" "I") (by decide +kernel)
  refine lv_aload_n hx hb dX9_column_0 rfl (lv_at hl 0 rfl) ?_
  refine lv_iconst (v := 0) hx hb dX9_column_1 (by decide +kernel) ?_
  refine va_put (ci := 9) (v := .int 0) (ty := (.int)) (C := RX9) (T := TX9) (N := 24) hx hb hts hi9 tyX9 tyX9_ok nmX9 hown hK hP hD hS 0 rfl rfl 0 (by decide) fl1 (fun _ h9 => h9) rfl (by decide +kernel) rfl rfl (Nat.le_of_ble_eq_true rfl) dX9_column_2 (fun H locs hP hD hS => ?_)
  have hP : va_P D vwCl (wl_k_X9_column cI cJ cK m0 a_row a_tape a_number a_read a_readBits a_stands a_parted a_bitsWere a_stood a_chosen a_bestChosen a_often a_sorted a_risen a_risenWays 0 (nI m_told) (nI m_taped) (nI m_at) (nI m_to) (nI m_many) (nI m_readMany) m_fewest (nI m_size) mt md mn) H := hP
  have hD : va_D A (wl_k_X9_column cI cJ cK m0 a_row a_tape a_number a_read a_readBits a_stands a_parted a_bitsWere a_stood a_chosen a_bestChosen a_often a_sorted a_risen a_risenWays 0 (nI m_told) (nI m_taped) (nI m_at) (nI m_to) (nI m_many) (nI m_readMany) m_fewest (nI m_size) mt md mn) := hD
  refine lv_aload_n hx hb dX9_column_5 rfl (lv_at hl 0 rfl) ?_
  refine my_goVS (wc := (wl_k_X9_reads cI cJ cK m0 a_row a_tape a_number a_read a_readBits a_stands a_parted a_bitsWere a_stood a_chosen a_bestChosen a_often a_sorted a_risen a_risenWays 0 (nI m_told) (nI m_taped) (nI m_at) (nI m_to) (nI m_many) (nI m_readMany) m_fewest (nI m_size))) hP hD hS hA [0] rfl [some 0] (by decide +kernel) (my_cV (As := []) (rest := []) (ci := 9) (wc := (wl_k_X9_reads cI cJ cK m0 a_row a_tape a_number a_read a_readBits a_stands a_parted a_bitsWere a_stood a_chosen a_bestChosen a_often a_sorted a_risen a_risenWays 0 (nI m_told) (nI m_taped) (nI m_at) (nI m_to) (nI m_many) (nI m_readMany) m_fewest (nI m_size))) ⟨hx, hb, hml, hown, hts⟩ (cwV 0 hts gX9_column_X9_reads rfl rfl rfl (by decide +kernel) ⟨Nat.le_of_ble_eq_true rfl, Nat.le_of_ble_eq_true rfl⟩) hN hK hP hD [0] rfl (by decide) rfl 0 rfl rfl rfl rfl hl.1 rfl (Nat.le_of_ble_eq_true rfl) dX9_column_6 ⟨Nat.le_of_ble_eq_true rfl, Nat.le_of_ble_eq_true rfl⟩  ((k_X9_reads l D cI cJ cK m0 a_row a_tape a_number a_read a_readBits a_stands a_parted a_bitsWere a_stood a_chosen a_bestChosen a_often a_sorted a_risen a_risenWays (0 : Int32) m_told m_taped m_at m_to m_many m_readMany m_fewest m_size (by first | assumption | omega | decide +kernel) (by first | assumption | omega | decide +kernel) (by first | assumption | omega | decide +kernel) (by first | assumption | omega | decide +kernel) (by first | assumption | omega | decide +kernel) (by first | assumption | omega | decide +kernel) (by first | assumption | omega | decide +kernel)) _)) (fun u H locs hp hPD hS => ?_)
  obtain rfl := hp
  obtain ⟨hP, hD⟩ := hPD rfl
  have hP : va_P D vwCl (wl_k_X9_column cI cJ cK m0 a_row a_tape a_number a_read a_readBits a_stands a_parted a_bitsWere a_stood a_chosen a_bestChosen a_often a_sorted a_risen a_risenWays 0 (nI m_told) 0 0 (nI m_taped) (nI m_many) (nI m_readMany) m_fewest (nI m_size) mt md mn) H := hP
  have hD : va_D A (wl_k_X9_column cI cJ cK m0 a_row a_tape a_number a_read a_readBits a_stands a_parted a_bitsWere a_stood a_chosen a_bestChosen a_often a_sorted a_risen a_risenWays 0 (nI m_told) 0 0 (nI m_taped) (nI m_many) (nI m_readMany) m_fewest (nI m_size) mt md mn) := hD
  refine lv_aload_n hx hb dX9_column_9 rfl (lv_at hl 0 rfl) ?_
  refine lv_iconst (v := 0) hx hb dX9_column_10 (by decide +kernel) ?_
  refine va_put (ci := 9) (v := .int 0) (ty := (.int)) (C := RX9) (T := TX9) (N := 24) hx hb hts hi9 tyX9 tyX9_ok nmX9 hown hK hP hD hS 0 rfl rfl 10 (by decide) fl93 (fun _ h9 => h9) rfl (by decide +kernel) rfl rfl (Nat.le_of_ble_eq_true rfl) dX9_column_11 (fun H locs hP hD hS => ?_)
  have hP : va_P D vwCl (wl_k_X9_column cI cJ cK m0 a_row a_tape a_number a_read a_readBits a_stands a_parted a_bitsWere a_stood a_chosen a_bestChosen a_often a_sorted a_risen a_risenWays 0 (nI m_told) 0 0 (nI m_taped) (nI m_many) 0 m_fewest (nI m_size) mt md mn) H := hP
  have hD : va_D A (wl_k_X9_column cI cJ cK m0 a_row a_tape a_number a_read a_readBits a_stands a_parted a_bitsWere a_stood a_chosen a_bestChosen a_often a_sorted a_risen a_risenWays 0 (nI m_told) 0 0 (nI m_taped) (nI m_many) 0 m_fewest (nI m_size) mt md mn) := hD
  refine lv_aload_n hx hb dX9_column_14 rfl (lv_at hl 0 rfl) ?_
  refine va_get (ci := 9) (v := .int (nI m_taped)) (C := RX9) (T := TX9) (N := 24) hx hb hts hi9 hown hK hP 0 rfl rfl 6 (by decide) fl25 (fun _ h9 => h9) rfl dX9_column_15 ?_
  refine lv_if_le (tgt := 25) hx hb dX9_column_18 (by decide) (fun c18 => ?_) (fun c18 => ?_)
  ·
    have d18 : ((m_taped : Nat) : Int) ≤ (0 : Int) := my_le c18 (nI_toInt (by omega)) (by decide +kernel)
    refine lv_iconst (v := 0) hx hb dX9_column_25 (by decide +kernel) ?_
    refine lv_istore_n (lv' := [(1, .int 0), (0, .ref m0)]) hx hb dX9_column_26 rfl hl (by decide) rfl (fun ls hl => ?_)
    have loop27 : ∀ (n9 : Nat) (x : Int32) (m0_at_27 : Nat) (m0_readMany_27 : Nat) (a_read_27 : Nat → Int32), 2 * (m_taped - m0_at_27) + x.toInt.toNat < n9 → (0 ≤ x.toInt) → (x.toInt ≤ 1) → (m0_at_27 ≤ m_taped) → (x.toInt = 1 → m_taped ≠ 0 ∧ clI mt m_taped m0_at_27 m0_readMany_27 a_read_27 md) → (x.toInt = 0 → colOk mt m_taped ∧ m0_readMany_27 = colN mt m_taped ∧ a_read_27 = colF mt m_taped md) → (m0_at_27 ≤ 100) → (m0_readMany_27 ≤ 64) → (RB 0 255 a_read_27) → ∀ (H : Heap) (locs : List Loc) (ls : Array Slot), va_P D vwCl (wl_k_X9_column cI cJ cK m0 a_row a_tape a_number a_read a_readBits a_stands a_parted a_bitsWere a_stood a_chosen a_bestChosen a_often a_sorted a_risen a_risenWays 0 (nI m_told) 0 (nI m0_at_27) (nI m_taped) (nI m_many) (nI m0_readMany_27) m_fewest (nI m_size) mt a_read_27 mn) H → va_D A (wl_k_X9_column cI cJ cK m0 a_row a_tape a_number a_read a_readBits a_stands a_parted a_bitsWere a_stood a_chosen a_bestChosen a_often a_sorted a_risen a_risenWays 0 (nI m_told) 0 (nI m0_at_27) (nI m_taped) (nI m_many) (nI m0_readMany_27) m_fewest (nI m_size) mt a_read_27 mn) → va_S A s.heap H locs → lv_has ls 2 [(1, .int x), (0, .ref m0)] → W p l e ({ frames := 4, cells := 0, slots := 0, locals := 240 } : Room) s m [.ref m0].toArray below meth c H locs 0 0 (MQ below (va_Qi (fun (r : Int32) (u : va_W) => (∃ (m_thrown' : Int32) (m_taped' : Nat) (m_at' : Nat) (m_to' : Nat) (m_many' : Nat) (m_readMany' : Nat) (md' : Nat → Int32) (mn' : Nat → Int32), u = (wl_k_X9_column cI cJ cK m0 a_row a_tape a_number a_read a_readBits a_stands a_parted a_bitsWere a_stood a_chosen a_bestChosen a_often a_sorted a_risen a_risenWays m_thrown' (nI m_told) (nI m_taped') (nI m_at') (nI m_to') (nI m_many') (nI m_readMany') m_fewest (nI m_size) mt md' mn') ∧ r = nI m_many' ∧ m_taped' ≤ 100 ∧ m_at' ≤ 100 ∧ m_to' ≤ 100 ∧ m_many' ≤ 64 ∧ m_readMany' ≤ 64 ∧ RB 0 255 md' ∧ RB 0 255 mn' ∧ m_taped' = 0 ∧ colOk mt m_taped ∧ m_many' = colN mt m_taped ∧ (∀ j, j < m_many' → mn' j = colF mt m_taped md j)) ∨ (∃ (m_thrown' : Int32) (m_taped' : Nat) (m_at' : Nat) (m_to' : Nat) (m_readMany' : Nat) (md' : Nat → Int32), u = (wl_k_X9_column cI cJ cK m0 a_row a_tape a_number a_read a_readBits a_stands a_parted a_bitsWere a_stood a_chosen a_bestChosen a_often a_sorted a_risen a_risenWays m_thrown' (nI m_told) (nI m_taped') (nI m_at') (nI m_to') (nI m_many) (nI m_readMany') m_fewest (nI m_size) mt md' mn) ∧ m_taped' ≤ 100 ∧ m_at' ≤ 100 ∧ m_to' ≤ 100 ∧ m_readMany' ≤ 64 ∧ RB 0 255 md' ∧ m_taped' = 0 ∧ ¬ colOk mt m_taped)) (my_B D (tyIJ cI cJ cK) A) A) [.ref m0].toArray s 0 0 A) (F0 m 27 ls []) := by
      intro n9
      induction n9 with
      | zero =>
        intro x m0_at_27 m0_readMany_27 a_read_27 hn9
        exact absurd hn9 (Nat.not_lt_zero _)
      | succ n9 ih27 =>
        intro x m0_at_27 m0_readMany_27 a_read_27 hn9 hx0 hx1 h1 hcl hfi hz_m0_at_27 hz_m0_readMany_27 hR_a_read_27 H locs ls hP hD hS hl
        refine lv_iload_n hx hb dX9_column_27 rfl (lv_at hl 0 rfl) ?_
        refine lv_if_eq (tgt := 55) hx hb dX9_column_28 (by decide) (fun c28 => ?_) (fun c28 => ?_)
        ·
          have d28 : x.toInt = (0 : Int) := my_eq c28 rfl (by decide +kernel)
          have hfi1 := hfi (by omega)
          refine lv_aload_n hx hb dX9_column_55 rfl (lv_at hl 1 rfl) ?_
          refine my_goVS (wc := (wl_k_X9_becomesRead cI cJ cK m0 a_row a_tape a_number a_read a_readBits a_stands a_parted a_bitsWere a_stood a_chosen a_bestChosen a_often a_sorted a_risen a_risenWays 0 (nI m_told) 0 (nI m0_at_27) (nI m_taped) (nI m_many) (nI m0_readMany_27) m_fewest (nI m_size) mn a_read_27)) hP hD hS hA [0, 3, 2] rfl [some 0, none, some 2, some 1] (by decide +kernel) (my_cV (As := []) (rest := []) (ci := 9) (wc := (wl_k_X9_becomesRead cI cJ cK m0 a_row a_tape a_number a_read a_readBits a_stands a_parted a_bitsWere a_stood a_chosen a_bestChosen a_often a_sorted a_risen a_risenWays 0 (nI m_told) 0 (nI m0_at_27) (nI m_taped) (nI m_many) (nI m0_readMany_27) m_fewest (nI m_size) mn a_read_27)) ⟨hx, hb, hml, hown, hts⟩ (cwV 0 hts gX9_column_X9_becomesRead rfl rfl rfl (by decide +kernel) ⟨Nat.le_of_ble_eq_true rfl, Nat.le_of_ble_eq_true rfl⟩) hN hK hP hD [0, 3, 2] rfl (by decide) rfl 0 rfl rfl rfl rfl hl.1 rfl (Nat.le_of_ble_eq_true rfl) dX9_column_56 ⟨Nat.le_of_ble_eq_true rfl, Nat.le_of_ble_eq_true rfl⟩  ((k_X9_becomesRead l D cI cJ cK m0 a_row a_tape a_number a_read a_readBits a_stands a_parted a_bitsWere a_stood a_chosen a_bestChosen a_often a_sorted a_risen a_risenWays (0 : Int32) m_told 0 m0_at_27 m_taped m_many m0_readMany_27 m_fewest m_size mn a_read_27 (by first | assumption | omega | decide +kernel) (by first | assumption | omega | decide +kernel) (by first | assumption | omega | decide +kernel) (by first | assumption | omega | decide +kernel) (by first | assumption | omega | decide +kernel) (by first | assumption | omega | decide +kernel) (by first | assumption | omega | decide +kernel) hR_mn hR_a_read_27) _)) (fun u H locs hp hPD hS => ?_)
          obtain ⟨m_many_1, mn_2, rfl, hhz_m_many_3, hR_mn_2, ha_4, hbr⟩ := hp
          obtain ⟨hP, hD⟩ := hPD rfl
          have hP : va_P D vwCl (wl_k_X9_column cI cJ cK m0 a_row a_tape a_number a_read a_readBits a_stands a_parted a_bitsWere a_stood a_chosen a_bestChosen a_often a_sorted a_risen a_risenWays 0 (nI m_told) 0 (nI m0_at_27) (nI m_taped) (nI m_many_1) (nI m0_readMany_27) m_fewest (nI m_size) mt a_read_27 mn_2) H := hP
          have hD : va_D A (wl_k_X9_column cI cJ cK m0 a_row a_tape a_number a_read a_readBits a_stands a_parted a_bitsWere a_stood a_chosen a_bestChosen a_often a_sorted a_risen a_risenWays 0 (nI m_told) 0 (nI m0_at_27) (nI m_taped) (nI m_many_1) (nI m0_readMany_27) m_fewest (nI m_size) mt a_read_27 mn_2) := hD
          refine lv_aload_n hx hb dX9_column_59 rfl (lv_at hl 1 rfl) ?_
          refine va_get (ci := 9) (v := .int (nI m_many_1)) (C := RX9) (T := TX9) (N := 24) hx hb hts hi9 hown hK hP 0 rfl rfl 7 (by decide) fl88 (fun _ h9 => h9) rfl dX9_column_60 ?_
          exact my_retI hx hb hr hlocks hK hS (wl_k_X9_column cI cJ cK m0 a_row a_tape a_number a_read a_readBits a_stands a_parted a_bitsWere a_stood a_chosen a_bestChosen a_often a_sorted a_risen a_risenWays 0 (nI m_told) 0 (nI m0_at_27) (nI m_taped) (nI m_many_1) (nI m0_readMany_27) m_fewest (nI m_size) mt a_read_27 mn_2) hP hD (Or.inl ⟨0, 0, m0_at_27, m_taped, m_many_1, m0_readMany_27, a_read_27, mn_2, rfl, rfl, (by first | assumption | omega | trivial | decide +kernel), (by first | assumption | omega | trivial | decide +kernel), (by first | assumption | omega | trivial | decide +kernel), (by first | assumption | omega | trivial | decide +kernel), (by first | assumption | omega | trivial | decide +kernel), hR_a_read_27, hR_mn_2, (by first | assumption | omega | trivial | decide +kernel), (by first | exact hfi1.1 | exact fun q => clI_bad hcl1.2 hpn ((col_1 (f := mt) hcl1.1 md).1.mp q)), (by have h9 := hfi1.2.1; omega), (fun j h => (hbr j (by omega)).trans (by rw [hfi1.2.2]))⟩) dX9_column_63
        ·
          have d28 : x.toInt ≠ (0 : Int) := my_ne c28 rfl (by decide +kernel)
          have hcl1 := hcl (by omega)
          refine lv_aload_n hx hb dX9_column_31 rfl (lv_at hl 1 rfl) ?_
          refine my_goIS (wc := (wl_k_X9_readsPart cI cJ cK m0 a_row a_tape a_number a_read a_readBits a_stands a_parted a_bitsWere a_stood a_chosen a_bestChosen a_often a_sorted a_risen a_risenWays 0 (nI m_told) 0 (nI m0_at_27) (nI m_taped) (nI m_many) (nI m0_readMany_27) m_fewest (nI m_size) mt a_read_27)) hP hD hS hA [0, 1, 2] rfl [some 0, some 1, some 2] (by decide +kernel) (my_cV (As := []) (rest := []) (ci := 9) (wc := (wl_k_X9_readsPart cI cJ cK m0 a_row a_tape a_number a_read a_readBits a_stands a_parted a_bitsWere a_stood a_chosen a_bestChosen a_often a_sorted a_risen a_risenWays 0 (nI m_told) 0 (nI m0_at_27) (nI m_taped) (nI m_many) (nI m0_readMany_27) m_fewest (nI m_size) mt a_read_27)) ⟨hx, hb, hml, hown, hts⟩ (cwV 0 hts gX9_column_X9_readsPart rfl rfl rfl (by decide +kernel) ⟨Nat.le_of_ble_eq_true rfl, Nat.le_of_ble_eq_true rfl⟩) hN hK hP hD [0, 1, 2] rfl (by decide) rfl 0 rfl rfl rfl rfl hl.1 rfl (Nat.le_of_ble_eq_true rfl) dX9_column_32 ⟨Nat.le_of_ble_eq_true rfl, Nat.le_of_ble_eq_true rfl⟩  ((k_X9_readsPart l D cI cJ cK m0 a_row a_tape a_number a_read a_readBits a_stands a_parted a_bitsWere a_stood a_chosen a_bestChosen a_often a_sorted a_risen a_risenWays (0 : Int32) m_told 0 m0_at_27 m_taped m_many m0_readMany_27 m_fewest m_size mt a_read_27 (by first | assumption | omega | decide +kernel) (by first | assumption | omega | decide +kernel) (by first | assumption | omega | decide +kernel) (by first | assumption | omega | decide +kernel) (by first | assumption | omega | decide +kernel) (by first | assumption | omega | decide +kernel) (by first | assumption | omega | decide +kernel) hR_mt hR_a_read_27 (by first | assumption | omega | decide +kernel)) _)) (fun r u H locs hp hPD hS => ?_)
          rcases hp with ⟨m_at_5, m_readMany_6, md_7, rfl, rfl, hhz_m_at_8, hhz_m_readMany_9, hR_md_7, hpo, hps, hpe, ht_10, hu_11, hpf, hpc⟩ | ⟨m_at_12, m_readMany_13, md_14, rfl, rfl, hhz_m_at_15, hhz_m_readMany_16, hR_md_14, hp_17, hq_18, hpn⟩
          ·
            obtain ⟨hP, hD⟩ := hPD rfl
            have hP : va_P D vwCl (wl_k_X9_column cI cJ cK m0 a_row a_tape a_number a_read a_readBits a_stands a_parted a_bitsWere a_stood a_chosen a_bestChosen a_often a_sorted a_risen a_risenWays 0 (nI m_told) 0 (nI m_at_5) (nI m_taped) (nI m_many) (nI m_readMany_6) m_fewest (nI m_size) mt md_7 mn) H := hP
            have hD : va_D A (wl_k_X9_column cI cJ cK m0 a_row a_tape a_number a_read a_readBits a_stands a_parted a_bitsWere a_stood a_chosen a_bestChosen a_often a_sorted a_risen a_risenWays 0 (nI m_told) 0 (nI m_at_5) (nI m_taped) (nI m_many) (nI m_readMany_6) m_fewest (nI m_size) mt md_7 mn) := hD
            refine lv_if_ne (tgt := 45) hx hb dX9_column_35 (by decide) (fun c35 => ?_) (fun c35 => ?_)
            ·
              refine lv_aload_n hx hb dX9_column_45 rfl (lv_at hl 1 rfl) ?_
              refine lv_bipush (v := 44) hx hb dX9_column_46 (by decide +kernel) ?_
              refine my_goIS (wc := (wl_k_X9_takes cI cJ cK m0 a_row a_tape a_number a_read a_readBits a_stands a_parted a_bitsWere a_stood a_chosen a_bestChosen a_often a_sorted a_risen a_risenWays 0 (nI m_told) 0 (nI m_at_5) (nI m_taped) (nI m_many) (nI m_readMany_6) m_fewest (nI m_size) mt)) hP hD hS hA [0, 1] rfl [some 0, some 1] (by decide +kernel) (my_cV (As := [.int 44]) (rest := []) (ci := 9) (wc := (wl_k_X9_takes cI cJ cK m0 a_row a_tape a_number a_read a_readBits a_stands a_parted a_bitsWere a_stood a_chosen a_bestChosen a_often a_sorted a_risen a_risenWays 0 (nI m_told) 0 (nI m_at_5) (nI m_taped) (nI m_many) (nI m_readMany_6) m_fewest (nI m_size) mt)) ⟨hx, hb, hml, hown, hts⟩ (cwV 1 hts gX9_column_X9_takes rfl rfl rfl (by decide +kernel) ⟨Nat.le_of_ble_eq_true rfl, Nat.le_of_ble_eq_true rfl⟩) hN hK hP hD [0, 1] rfl (by decide) rfl 0 rfl rfl rfl rfl hl.1 rfl (Nat.le_of_ble_eq_true rfl) dX9_column_48 ⟨Nat.le_of_ble_eq_true rfl, Nat.le_of_ble_eq_true rfl⟩  ((k_X9_takes l D cI cJ cK m0 a_row a_tape a_number a_read a_readBits a_stands a_parted a_bitsWere a_stood a_chosen a_bestChosen a_often a_sorted a_risen a_risenWays (0 : Int32) m_told 0 m_at_5 m_taped m_many m_readMany_6 m_fewest m_size mt (44 : Int32) (44 : Int) (by decide +kernel) (by first | assumption | omega | decide +kernel) (by first | assumption | omega | decide +kernel) (by first | assumption | omega | decide +kernel) (by first | assumption | omega | decide +kernel) (by first | assumption | omega | decide +kernel) (by first | assumption | omega | decide +kernel) (by first | assumption | omega | decide +kernel) hR_mt) _)) (fun r u H locs hp hPD hS => ?_)
              rcases hp with ⟨rfl, rfl, hc_19, he_20⟩ | ⟨rfl, rfl, ho_21⟩
              ·
                obtain ⟨hP, hD⟩ := hPD rfl
                have hP : va_P D vwCl (wl_k_X9_column cI cJ cK m0 a_row a_tape a_number a_read a_readBits a_stands a_parted a_bitsWere a_stood a_chosen a_bestChosen a_often a_sorted a_risen a_risenWays 0 (nI m_told) 0 (nI (m_at_5 + 1)) (nI m_taped) (nI m_many) (nI m_readMany_6) m_fewest (nI m_size) mt md_7 mn) H := hP
                have hD : va_D A (wl_k_X9_column cI cJ cK m0 a_row a_tape a_number a_read a_readBits a_stands a_parted a_bitsWere a_stood a_chosen a_bestChosen a_often a_sorted a_risen a_risenWays 0 (nI m_told) 0 (nI (m_at_5 + 1)) (nI m_taped) (nI m_many) (nI m_readMany_6) m_fewest (nI m_size) mt md_7 mn) := hD
                refine lv_istore_n (lv' := [(1, .int 1), (0, .ref m0)]) hx hb dX9_column_51 rfl hl (by decide) rfl (fun ls hl => ?_)
                refine lv_goto (tgt := 27) hx hb dX9_column_52 (by decide) ?_
                have ec_22 : (1 : Int32).toInt = 1 := by decide +kernel
                exact ih27  (1 : Int32) (m_at_5 + 1) m_readMany_6 md_7 (by omega) (by first | assumption | omega | decide +kernel) (by first | assumption | omega | decide +kernel) (by first | assumption | omega | decide +kernel) (fun h9 => by first | (exfalso; revert h9; decide) | (refine ⟨hcl1.1, ?_⟩; have h8 := clI_step hcl1.2 hpo (by omega) (by rw [← hpe]; exact isS_iff.mpr ⟨by omega, by assumption⟩); rw [← hpf, ← hps, ← hpe] at h8; exact h8)) (fun h9 => by first | (exfalso; revert h9; decide) | (have q := clI_end hcl1.2 hpo (by omega) (by omega); have q1 := col_1 (f := mt) hcl1.1 md; exact ⟨q1.1.mpr q.1, by rw [q1.2.1, ← q.2.1]; exact hps, by rw [q1.2.2, ← q.2.2]; exact hpf⟩)) (by first | assumption | omega | decide +kernel) (by first | assumption | omega | decide +kernel) hR_md_7 _ _ ls hP hD hS (lv_sub hl [0, 1] rfl)
              ·
                obtain ⟨hP, hD⟩ := hPD rfl
                have hP : va_P D vwCl (wl_k_X9_column cI cJ cK m0 a_row a_tape a_number a_read a_readBits a_stands a_parted a_bitsWere a_stood a_chosen a_bestChosen a_often a_sorted a_risen a_risenWays 0 (nI m_told) 0 (nI m_at_5) (nI m_taped) (nI m_many) (nI m_readMany_6) m_fewest (nI m_size) mt md_7 mn) H := hP
                have hD : va_D A (wl_k_X9_column cI cJ cK m0 a_row a_tape a_number a_read a_readBits a_stands a_parted a_bitsWere a_stood a_chosen a_bestChosen a_often a_sorted a_risen a_risenWays 0 (nI m_told) 0 (nI m_at_5) (nI m_taped) (nI m_many) (nI m_readMany_6) m_fewest (nI m_size) mt md_7 mn) := hD
                refine lv_istore_n (lv' := [(1, .int 0), (0, .ref m0)]) hx hb dX9_column_51 rfl hl (by decide) rfl (fun ls hl => ?_)
                refine lv_goto (tgt := 27) hx hb dX9_column_52 (by decide) ?_
                have ec_23 : (0 : Int32).toInt = 0 := by decide +kernel
                exact ih27  (0 : Int32) m_at_5 m_readMany_6 md_7 (by omega) (by first | assumption | omega | decide +kernel) (by first | assumption | omega | decide +kernel) (by first | assumption | omega | decide +kernel) (fun h9 => by first | (exfalso; revert h9; decide) | (refine ⟨hcl1.1, ?_⟩; have h8 := clI_step hcl1.2 hpo (by omega) (by rw [← hpe]; exact isS_iff.mpr ⟨by omega, by assumption⟩); rw [← hpf, ← hps, ← hpe] at h8; exact h8)) (fun h9 => by first | (exfalso; revert h9; decide) | (have q := clI_end hcl1.2 hpo (by omega) (by omega); have q1 := col_1 (f := mt) hcl1.1 md; exact ⟨q1.1.mpr q.1, by rw [q1.2.1, ← q.2.1]; exact hps, by rw [q1.2.2, ← q.2.2]; exact hpf⟩)) (by first | assumption | omega | decide +kernel) (by first | assumption | omega | decide +kernel) hR_md_7 _ _ ls hP hD hS (lv_sub hl [0, 1] rfl)
            ·
              exact absurd c35 (by decide +kernel)
          ·
            obtain ⟨hP, hD⟩ := hPD rfl
            have hP : va_P D vwCl (wl_k_X9_column cI cJ cK m0 a_row a_tape a_number a_read a_readBits a_stands a_parted a_bitsWere a_stood a_chosen a_bestChosen a_often a_sorted a_risen a_risenWays 0 (nI m_told) 0 (nI m_at_12) (nI m_taped) (nI m_many) (nI m_readMany_13) m_fewest (nI m_size) mt md_14 mn) H := hP
            have hD : va_D A (wl_k_X9_column cI cJ cK m0 a_row a_tape a_number a_read a_readBits a_stands a_parted a_bitsWere a_stood a_chosen a_bestChosen a_often a_sorted a_risen a_risenWays 0 (nI m_told) 0 (nI m_at_12) (nI m_taped) (nI m_many) (nI m_readMany_13) m_fewest (nI m_size) mt md_14 mn) := hD
            refine lv_if_ne (tgt := 45) hx hb dX9_column_35 (by decide) (fun c35 => ?_) (fun c35 => ?_)
            ·
              exact absurd c35 (by decide +kernel)
            ·
              refine lv_iconst (v := (-1)) hx hb dX9_column_38 (by decide +kernel) ?_
              refine lv_aload_n hx hb dX9_column_39 rfl (lv_at hl 1 rfl) ?_
              refine va_get (ci := 9) (v := .int (nI m_at_12)) (C := RX9) (T := TX9) (N := 24) hx hb hts hi9 hown hK hP 0 rfl rfl 5 (by decide) fl28 (fun _ h9 => h9) rfl dX9_column_40 ?_
              refine lv_isub hx hb dX9_column_43 ?_
              refine lv_topi (fun z_24 ez_24 => ?_)
              try have tz_24 : z_24.toInt = (-1 : Int) - ((m_at_12 : Nat) : Int) := by rw [ez_24]; exact my_subI (by decide +kernel) (nI_toInt (by omega)) (by omega) (by omega)
              exact my_retI hx hb hr hlocks hK hS (wl_k_X9_column cI cJ cK m0 a_row a_tape a_number a_read a_readBits a_stands a_parted a_bitsWere a_stood a_chosen a_bestChosen a_often a_sorted a_risen a_risenWays 0 (nI m_told) 0 (nI m_at_12) (nI m_taped) (nI m_many) (nI m_readMany_13) m_fewest (nI m_size) mt md_14 mn) hP hD (Or.inr (⟨0, 0, m_at_12, m_taped, m_readMany_13, md_14, rfl, (by first | assumption | omega | trivial | decide +kernel), (by first | assumption | omega | trivial | decide +kernel), (by first | assumption | omega | trivial | decide +kernel), (by first | assumption | omega | trivial | decide +kernel), hR_md_14, (by first | assumption | omega | trivial | decide +kernel), (by first | exact hfi1.1 | exact fun q => clI_bad hcl1.2 hpn ((col_1 (f := mt) hcl1.1 md).1.mp q))⟩)) dX9_column_44
    have ec_25 : (0 : Int32).toInt = 0 := by decide +kernel
    exact loop27 ((2 * (m_taped - 0) + (0 : Int32).toInt.toNat) + 1) (0 : Int32) 0 0 md (Nat.lt_succ_self _) (by first | assumption | omega | decide +kernel) (by first | assumption | omega | decide +kernel) (by first | assumption | omega | decide +kernel) (fun h9 => by first | exact ⟨by omega, clI_0 mt m_taped md⟩ | (exfalso; revert h9; decide)) (fun h9 => by first | (exfalso; revert h9; decide) | (have q := (col_0 (f := mt) (n := m_taped) (by omega) md); exact ⟨q.1, q.2.1.symm, q.2.2.symm⟩)) (by first | assumption | omega | decide +kernel) (by first | assumption | omega | decide +kernel) hR_md _ _ ls hP hD hS (lv_sub hl [0, 1] rfl)
  ·
    have d18 : ((m_taped : Nat) : Int) > (0 : Int) := my_nle c18 (nI_toInt (by omega)) (by decide +kernel)
    refine lv_iconst (v := 1) hx hb dX9_column_21 (by decide +kernel) ?_
    refine lv_goto (tgt := 26) hx hb dX9_column_22 (by decide) ?_
    refine lv_istore_n (lv' := [(1, .int 1), (0, .ref m0)]) hx hb dX9_column_26 rfl hl (by decide) rfl (fun ls hl => ?_)
    have loop27 : ∀ (n9 : Nat) (x : Int32) (m0_at_27 : Nat) (m0_readMany_27 : Nat) (a_read_27 : Nat → Int32), 2 * (m_taped - m0_at_27) + x.toInt.toNat < n9 → (0 ≤ x.toInt) → (x.toInt ≤ 1) → (m0_at_27 ≤ m_taped) → (x.toInt = 1 → m_taped ≠ 0 ∧ clI mt m_taped m0_at_27 m0_readMany_27 a_read_27 md) → (x.toInt = 0 → colOk mt m_taped ∧ m0_readMany_27 = colN mt m_taped ∧ a_read_27 = colF mt m_taped md) → (m0_at_27 ≤ 100) → (m0_readMany_27 ≤ 64) → (RB 0 255 a_read_27) → ∀ (H : Heap) (locs : List Loc) (ls : Array Slot), va_P D vwCl (wl_k_X9_column cI cJ cK m0 a_row a_tape a_number a_read a_readBits a_stands a_parted a_bitsWere a_stood a_chosen a_bestChosen a_often a_sorted a_risen a_risenWays 0 (nI m_told) 0 (nI m0_at_27) (nI m_taped) (nI m_many) (nI m0_readMany_27) m_fewest (nI m_size) mt a_read_27 mn) H → va_D A (wl_k_X9_column cI cJ cK m0 a_row a_tape a_number a_read a_readBits a_stands a_parted a_bitsWere a_stood a_chosen a_bestChosen a_often a_sorted a_risen a_risenWays 0 (nI m_told) 0 (nI m0_at_27) (nI m_taped) (nI m_many) (nI m0_readMany_27) m_fewest (nI m_size) mt a_read_27 mn) → va_S A s.heap H locs → lv_has ls 2 [(1, .int x), (0, .ref m0)] → W p l e ({ frames := 4, cells := 0, slots := 0, locals := 240 } : Room) s m [.ref m0].toArray below meth c H locs 0 0 (MQ below (va_Qi (fun (r : Int32) (u : va_W) => (∃ (m_thrown' : Int32) (m_taped' : Nat) (m_at' : Nat) (m_to' : Nat) (m_many' : Nat) (m_readMany' : Nat) (md' : Nat → Int32) (mn' : Nat → Int32), u = (wl_k_X9_column cI cJ cK m0 a_row a_tape a_number a_read a_readBits a_stands a_parted a_bitsWere a_stood a_chosen a_bestChosen a_often a_sorted a_risen a_risenWays m_thrown' (nI m_told) (nI m_taped') (nI m_at') (nI m_to') (nI m_many') (nI m_readMany') m_fewest (nI m_size) mt md' mn') ∧ r = nI m_many' ∧ m_taped' ≤ 100 ∧ m_at' ≤ 100 ∧ m_to' ≤ 100 ∧ m_many' ≤ 64 ∧ m_readMany' ≤ 64 ∧ RB 0 255 md' ∧ RB 0 255 mn' ∧ m_taped' = 0 ∧ colOk mt m_taped ∧ m_many' = colN mt m_taped ∧ (∀ j, j < m_many' → mn' j = colF mt m_taped md j)) ∨ (∃ (m_thrown' : Int32) (m_taped' : Nat) (m_at' : Nat) (m_to' : Nat) (m_readMany' : Nat) (md' : Nat → Int32), u = (wl_k_X9_column cI cJ cK m0 a_row a_tape a_number a_read a_readBits a_stands a_parted a_bitsWere a_stood a_chosen a_bestChosen a_often a_sorted a_risen a_risenWays m_thrown' (nI m_told) (nI m_taped') (nI m_at') (nI m_to') (nI m_many) (nI m_readMany') m_fewest (nI m_size) mt md' mn) ∧ m_taped' ≤ 100 ∧ m_at' ≤ 100 ∧ m_to' ≤ 100 ∧ m_readMany' ≤ 64 ∧ RB 0 255 md' ∧ m_taped' = 0 ∧ ¬ colOk mt m_taped)) (my_B D (tyIJ cI cJ cK) A) A) [.ref m0].toArray s 0 0 A) (F0 m 27 ls []) := by
      intro n9
      induction n9 with
      | zero =>
        intro x m0_at_27 m0_readMany_27 a_read_27 hn9
        exact absurd hn9 (Nat.not_lt_zero _)
      | succ n9 ih27 =>
        intro x m0_at_27 m0_readMany_27 a_read_27 hn9 hx0 hx1 h1 hcl hfi hz_m0_at_27 hz_m0_readMany_27 hR_a_read_27 H locs ls hP hD hS hl
        refine lv_iload_n hx hb dX9_column_27 rfl (lv_at hl 0 rfl) ?_
        refine lv_if_eq (tgt := 55) hx hb dX9_column_28 (by decide) (fun c28 => ?_) (fun c28 => ?_)
        ·
          have d28 : x.toInt = (0 : Int) := my_eq c28 rfl (by decide +kernel)
          have hfi1 := hfi (by omega)
          refine lv_aload_n hx hb dX9_column_55 rfl (lv_at hl 1 rfl) ?_
          refine my_goVS (wc := (wl_k_X9_becomesRead cI cJ cK m0 a_row a_tape a_number a_read a_readBits a_stands a_parted a_bitsWere a_stood a_chosen a_bestChosen a_often a_sorted a_risen a_risenWays 0 (nI m_told) 0 (nI m0_at_27) (nI m_taped) (nI m_many) (nI m0_readMany_27) m_fewest (nI m_size) mn a_read_27)) hP hD hS hA [0, 3, 2] rfl [some 0, none, some 2, some 1] (by decide +kernel) (my_cV (As := []) (rest := []) (ci := 9) (wc := (wl_k_X9_becomesRead cI cJ cK m0 a_row a_tape a_number a_read a_readBits a_stands a_parted a_bitsWere a_stood a_chosen a_bestChosen a_often a_sorted a_risen a_risenWays 0 (nI m_told) 0 (nI m0_at_27) (nI m_taped) (nI m_many) (nI m0_readMany_27) m_fewest (nI m_size) mn a_read_27)) ⟨hx, hb, hml, hown, hts⟩ (cwV 0 hts gX9_column_X9_becomesRead rfl rfl rfl (by decide +kernel) ⟨Nat.le_of_ble_eq_true rfl, Nat.le_of_ble_eq_true rfl⟩) hN hK hP hD [0, 3, 2] rfl (by decide) rfl 0 rfl rfl rfl rfl hl.1 rfl (Nat.le_of_ble_eq_true rfl) dX9_column_56 ⟨Nat.le_of_ble_eq_true rfl, Nat.le_of_ble_eq_true rfl⟩  ((k_X9_becomesRead l D cI cJ cK m0 a_row a_tape a_number a_read a_readBits a_stands a_parted a_bitsWere a_stood a_chosen a_bestChosen a_often a_sorted a_risen a_risenWays (0 : Int32) m_told 0 m0_at_27 m_taped m_many m0_readMany_27 m_fewest m_size mn a_read_27 (by first | assumption | omega | decide +kernel) (by first | assumption | omega | decide +kernel) (by first | assumption | omega | decide +kernel) (by first | assumption | omega | decide +kernel) (by first | assumption | omega | decide +kernel) (by first | assumption | omega | decide +kernel) (by first | assumption | omega | decide +kernel) hR_mn hR_a_read_27) _)) (fun u H locs hp hPD hS => ?_)
          obtain ⟨m_many_26, mn_27, rfl, hhz_m_many_28, hR_mn_27, ha_29, hbr⟩ := hp
          obtain ⟨hP, hD⟩ := hPD rfl
          have hP : va_P D vwCl (wl_k_X9_column cI cJ cK m0 a_row a_tape a_number a_read a_readBits a_stands a_parted a_bitsWere a_stood a_chosen a_bestChosen a_often a_sorted a_risen a_risenWays 0 (nI m_told) 0 (nI m0_at_27) (nI m_taped) (nI m_many_26) (nI m0_readMany_27) m_fewest (nI m_size) mt a_read_27 mn_27) H := hP
          have hD : va_D A (wl_k_X9_column cI cJ cK m0 a_row a_tape a_number a_read a_readBits a_stands a_parted a_bitsWere a_stood a_chosen a_bestChosen a_often a_sorted a_risen a_risenWays 0 (nI m_told) 0 (nI m0_at_27) (nI m_taped) (nI m_many_26) (nI m0_readMany_27) m_fewest (nI m_size) mt a_read_27 mn_27) := hD
          refine lv_aload_n hx hb dX9_column_59 rfl (lv_at hl 1 rfl) ?_
          refine va_get (ci := 9) (v := .int (nI m_many_26)) (C := RX9) (T := TX9) (N := 24) hx hb hts hi9 hown hK hP 0 rfl rfl 7 (by decide) fl88 (fun _ h9 => h9) rfl dX9_column_60 ?_
          exact my_retI hx hb hr hlocks hK hS (wl_k_X9_column cI cJ cK m0 a_row a_tape a_number a_read a_readBits a_stands a_parted a_bitsWere a_stood a_chosen a_bestChosen a_often a_sorted a_risen a_risenWays 0 (nI m_told) 0 (nI m0_at_27) (nI m_taped) (nI m_many_26) (nI m0_readMany_27) m_fewest (nI m_size) mt a_read_27 mn_27) hP hD (Or.inl ⟨0, 0, m0_at_27, m_taped, m_many_26, m0_readMany_27, a_read_27, mn_27, rfl, rfl, (by first | assumption | omega | trivial | decide +kernel), (by first | assumption | omega | trivial | decide +kernel), (by first | assumption | omega | trivial | decide +kernel), (by first | assumption | omega | trivial | decide +kernel), (by first | assumption | omega | trivial | decide +kernel), hR_a_read_27, hR_mn_27, (by first | assumption | omega | trivial | decide +kernel), (by first | exact hfi1.1 | exact fun q => clI_bad hcl1.2 hpn ((col_1 (f := mt) hcl1.1 md).1.mp q)), (by have h9 := hfi1.2.1; omega), (fun j h => (hbr j (by omega)).trans (by rw [hfi1.2.2]))⟩) dX9_column_63
        ·
          have d28 : x.toInt ≠ (0 : Int) := my_ne c28 rfl (by decide +kernel)
          have hcl1 := hcl (by omega)
          refine lv_aload_n hx hb dX9_column_31 rfl (lv_at hl 1 rfl) ?_
          refine my_goIS (wc := (wl_k_X9_readsPart cI cJ cK m0 a_row a_tape a_number a_read a_readBits a_stands a_parted a_bitsWere a_stood a_chosen a_bestChosen a_often a_sorted a_risen a_risenWays 0 (nI m_told) 0 (nI m0_at_27) (nI m_taped) (nI m_many) (nI m0_readMany_27) m_fewest (nI m_size) mt a_read_27)) hP hD hS hA [0, 1, 2] rfl [some 0, some 1, some 2] (by decide +kernel) (my_cV (As := []) (rest := []) (ci := 9) (wc := (wl_k_X9_readsPart cI cJ cK m0 a_row a_tape a_number a_read a_readBits a_stands a_parted a_bitsWere a_stood a_chosen a_bestChosen a_often a_sorted a_risen a_risenWays 0 (nI m_told) 0 (nI m0_at_27) (nI m_taped) (nI m_many) (nI m0_readMany_27) m_fewest (nI m_size) mt a_read_27)) ⟨hx, hb, hml, hown, hts⟩ (cwV 0 hts gX9_column_X9_readsPart rfl rfl rfl (by decide +kernel) ⟨Nat.le_of_ble_eq_true rfl, Nat.le_of_ble_eq_true rfl⟩) hN hK hP hD [0, 1, 2] rfl (by decide) rfl 0 rfl rfl rfl rfl hl.1 rfl (Nat.le_of_ble_eq_true rfl) dX9_column_32 ⟨Nat.le_of_ble_eq_true rfl, Nat.le_of_ble_eq_true rfl⟩  ((k_X9_readsPart l D cI cJ cK m0 a_row a_tape a_number a_read a_readBits a_stands a_parted a_bitsWere a_stood a_chosen a_bestChosen a_often a_sorted a_risen a_risenWays (0 : Int32) m_told 0 m0_at_27 m_taped m_many m0_readMany_27 m_fewest m_size mt a_read_27 (by first | assumption | omega | decide +kernel) (by first | assumption | omega | decide +kernel) (by first | assumption | omega | decide +kernel) (by first | assumption | omega | decide +kernel) (by first | assumption | omega | decide +kernel) (by first | assumption | omega | decide +kernel) (by first | assumption | omega | decide +kernel) hR_mt hR_a_read_27 (by first | assumption | omega | decide +kernel)) _)) (fun r u H locs hp hPD hS => ?_)
          rcases hp with ⟨m_at_30, m_readMany_31, md_32, rfl, rfl, hhz_m_at_33, hhz_m_readMany_34, hR_md_32, hpo, hps, hpe, ht_35, hu_36, hpf, hpc⟩ | ⟨m_at_37, m_readMany_38, md_39, rfl, rfl, hhz_m_at_40, hhz_m_readMany_41, hR_md_39, hp_42, hq_43, hpn⟩
          ·
            obtain ⟨hP, hD⟩ := hPD rfl
            have hP : va_P D vwCl (wl_k_X9_column cI cJ cK m0 a_row a_tape a_number a_read a_readBits a_stands a_parted a_bitsWere a_stood a_chosen a_bestChosen a_often a_sorted a_risen a_risenWays 0 (nI m_told) 0 (nI m_at_30) (nI m_taped) (nI m_many) (nI m_readMany_31) m_fewest (nI m_size) mt md_32 mn) H := hP
            have hD : va_D A (wl_k_X9_column cI cJ cK m0 a_row a_tape a_number a_read a_readBits a_stands a_parted a_bitsWere a_stood a_chosen a_bestChosen a_often a_sorted a_risen a_risenWays 0 (nI m_told) 0 (nI m_at_30) (nI m_taped) (nI m_many) (nI m_readMany_31) m_fewest (nI m_size) mt md_32 mn) := hD
            refine lv_if_ne (tgt := 45) hx hb dX9_column_35 (by decide) (fun c35 => ?_) (fun c35 => ?_)
            ·
              refine lv_aload_n hx hb dX9_column_45 rfl (lv_at hl 1 rfl) ?_
              refine lv_bipush (v := 44) hx hb dX9_column_46 (by decide +kernel) ?_
              refine my_goIS (wc := (wl_k_X9_takes cI cJ cK m0 a_row a_tape a_number a_read a_readBits a_stands a_parted a_bitsWere a_stood a_chosen a_bestChosen a_often a_sorted a_risen a_risenWays 0 (nI m_told) 0 (nI m_at_30) (nI m_taped) (nI m_many) (nI m_readMany_31) m_fewest (nI m_size) mt)) hP hD hS hA [0, 1] rfl [some 0, some 1] (by decide +kernel) (my_cV (As := [.int 44]) (rest := []) (ci := 9) (wc := (wl_k_X9_takes cI cJ cK m0 a_row a_tape a_number a_read a_readBits a_stands a_parted a_bitsWere a_stood a_chosen a_bestChosen a_often a_sorted a_risen a_risenWays 0 (nI m_told) 0 (nI m_at_30) (nI m_taped) (nI m_many) (nI m_readMany_31) m_fewest (nI m_size) mt)) ⟨hx, hb, hml, hown, hts⟩ (cwV 1 hts gX9_column_X9_takes rfl rfl rfl (by decide +kernel) ⟨Nat.le_of_ble_eq_true rfl, Nat.le_of_ble_eq_true rfl⟩) hN hK hP hD [0, 1] rfl (by decide) rfl 0 rfl rfl rfl rfl hl.1 rfl (Nat.le_of_ble_eq_true rfl) dX9_column_48 ⟨Nat.le_of_ble_eq_true rfl, Nat.le_of_ble_eq_true rfl⟩  ((k_X9_takes l D cI cJ cK m0 a_row a_tape a_number a_read a_readBits a_stands a_parted a_bitsWere a_stood a_chosen a_bestChosen a_often a_sorted a_risen a_risenWays (0 : Int32) m_told 0 m_at_30 m_taped m_many m_readMany_31 m_fewest m_size mt (44 : Int32) (44 : Int) (by decide +kernel) (by first | assumption | omega | decide +kernel) (by first | assumption | omega | decide +kernel) (by first | assumption | omega | decide +kernel) (by first | assumption | omega | decide +kernel) (by first | assumption | omega | decide +kernel) (by first | assumption | omega | decide +kernel) (by first | assumption | omega | decide +kernel) hR_mt) _)) (fun r u H locs hp hPD hS => ?_)
              rcases hp with ⟨rfl, rfl, hc_44, he_45⟩ | ⟨rfl, rfl, ho_46⟩
              ·
                obtain ⟨hP, hD⟩ := hPD rfl
                have hP : va_P D vwCl (wl_k_X9_column cI cJ cK m0 a_row a_tape a_number a_read a_readBits a_stands a_parted a_bitsWere a_stood a_chosen a_bestChosen a_often a_sorted a_risen a_risenWays 0 (nI m_told) 0 (nI (m_at_30 + 1)) (nI m_taped) (nI m_many) (nI m_readMany_31) m_fewest (nI m_size) mt md_32 mn) H := hP
                have hD : va_D A (wl_k_X9_column cI cJ cK m0 a_row a_tape a_number a_read a_readBits a_stands a_parted a_bitsWere a_stood a_chosen a_bestChosen a_often a_sorted a_risen a_risenWays 0 (nI m_told) 0 (nI (m_at_30 + 1)) (nI m_taped) (nI m_many) (nI m_readMany_31) m_fewest (nI m_size) mt md_32 mn) := hD
                refine lv_istore_n (lv' := [(1, .int 1), (0, .ref m0)]) hx hb dX9_column_51 rfl hl (by decide) rfl (fun ls hl => ?_)
                refine lv_goto (tgt := 27) hx hb dX9_column_52 (by decide) ?_
                have ec_47 : (1 : Int32).toInt = 1 := by decide +kernel
                exact ih27  (1 : Int32) (m_at_30 + 1) m_readMany_31 md_32 (by omega) (by first | assumption | omega | decide +kernel) (by first | assumption | omega | decide +kernel) (by first | assumption | omega | decide +kernel) (fun h9 => by first | (exfalso; revert h9; decide) | (refine ⟨hcl1.1, ?_⟩; have h8 := clI_step hcl1.2 hpo (by omega) (by rw [← hpe]; exact isS_iff.mpr ⟨by omega, by assumption⟩); rw [← hpf, ← hps, ← hpe] at h8; exact h8)) (fun h9 => by first | (exfalso; revert h9; decide) | (have q := clI_end hcl1.2 hpo (by omega) (by omega); have q1 := col_1 (f := mt) hcl1.1 md; exact ⟨q1.1.mpr q.1, by rw [q1.2.1, ← q.2.1]; exact hps, by rw [q1.2.2, ← q.2.2]; exact hpf⟩)) (by first | assumption | omega | decide +kernel) (by first | assumption | omega | decide +kernel) hR_md_32 _ _ ls hP hD hS (lv_sub hl [0, 1] rfl)
              ·
                obtain ⟨hP, hD⟩ := hPD rfl
                have hP : va_P D vwCl (wl_k_X9_column cI cJ cK m0 a_row a_tape a_number a_read a_readBits a_stands a_parted a_bitsWere a_stood a_chosen a_bestChosen a_often a_sorted a_risen a_risenWays 0 (nI m_told) 0 (nI m_at_30) (nI m_taped) (nI m_many) (nI m_readMany_31) m_fewest (nI m_size) mt md_32 mn) H := hP
                have hD : va_D A (wl_k_X9_column cI cJ cK m0 a_row a_tape a_number a_read a_readBits a_stands a_parted a_bitsWere a_stood a_chosen a_bestChosen a_often a_sorted a_risen a_risenWays 0 (nI m_told) 0 (nI m_at_30) (nI m_taped) (nI m_many) (nI m_readMany_31) m_fewest (nI m_size) mt md_32 mn) := hD
                refine lv_istore_n (lv' := [(1, .int 0), (0, .ref m0)]) hx hb dX9_column_51 rfl hl (by decide) rfl (fun ls hl => ?_)
                refine lv_goto (tgt := 27) hx hb dX9_column_52 (by decide) ?_
                have ec_48 : (0 : Int32).toInt = 0 := by decide +kernel
                exact ih27  (0 : Int32) m_at_30 m_readMany_31 md_32 (by omega) (by first | assumption | omega | decide +kernel) (by first | assumption | omega | decide +kernel) (by first | assumption | omega | decide +kernel) (fun h9 => by first | (exfalso; revert h9; decide) | (refine ⟨hcl1.1, ?_⟩; have h8 := clI_step hcl1.2 hpo (by omega) (by rw [← hpe]; exact isS_iff.mpr ⟨by omega, by assumption⟩); rw [← hpf, ← hps, ← hpe] at h8; exact h8)) (fun h9 => by first | (exfalso; revert h9; decide) | (have q := clI_end hcl1.2 hpo (by omega) (by omega); have q1 := col_1 (f := mt) hcl1.1 md; exact ⟨q1.1.mpr q.1, by rw [q1.2.1, ← q.2.1]; exact hps, by rw [q1.2.2, ← q.2.2]; exact hpf⟩)) (by first | assumption | omega | decide +kernel) (by first | assumption | omega | decide +kernel) hR_md_32 _ _ ls hP hD hS (lv_sub hl [0, 1] rfl)
            ·
              exact absurd c35 (by decide +kernel)
          ·
            obtain ⟨hP, hD⟩ := hPD rfl
            have hP : va_P D vwCl (wl_k_X9_column cI cJ cK m0 a_row a_tape a_number a_read a_readBits a_stands a_parted a_bitsWere a_stood a_chosen a_bestChosen a_often a_sorted a_risen a_risenWays 0 (nI m_told) 0 (nI m_at_37) (nI m_taped) (nI m_many) (nI m_readMany_38) m_fewest (nI m_size) mt md_39 mn) H := hP
            have hD : va_D A (wl_k_X9_column cI cJ cK m0 a_row a_tape a_number a_read a_readBits a_stands a_parted a_bitsWere a_stood a_chosen a_bestChosen a_often a_sorted a_risen a_risenWays 0 (nI m_told) 0 (nI m_at_37) (nI m_taped) (nI m_many) (nI m_readMany_38) m_fewest (nI m_size) mt md_39 mn) := hD
            refine lv_if_ne (tgt := 45) hx hb dX9_column_35 (by decide) (fun c35 => ?_) (fun c35 => ?_)
            ·
              exact absurd c35 (by decide +kernel)
            ·
              refine lv_iconst (v := (-1)) hx hb dX9_column_38 (by decide +kernel) ?_
              refine lv_aload_n hx hb dX9_column_39 rfl (lv_at hl 1 rfl) ?_
              refine va_get (ci := 9) (v := .int (nI m_at_37)) (C := RX9) (T := TX9) (N := 24) hx hb hts hi9 hown hK hP 0 rfl rfl 5 (by decide) fl28 (fun _ h9 => h9) rfl dX9_column_40 ?_
              refine lv_isub hx hb dX9_column_43 ?_
              refine lv_topi (fun z_49 ez_49 => ?_)
              try have tz_49 : z_49.toInt = (-1 : Int) - ((m_at_37 : Nat) : Int) := by rw [ez_49]; exact my_subI (by decide +kernel) (nI_toInt (by omega)) (by omega) (by omega)
              exact my_retI hx hb hr hlocks hK hS (wl_k_X9_column cI cJ cK m0 a_row a_tape a_number a_read a_readBits a_stands a_parted a_bitsWere a_stood a_chosen a_bestChosen a_often a_sorted a_risen a_risenWays 0 (nI m_told) 0 (nI m_at_37) (nI m_taped) (nI m_many) (nI m_readMany_38) m_fewest (nI m_size) mt md_39 mn) hP hD (Or.inr (⟨0, 0, m_at_37, m_taped, m_readMany_38, md_39, rfl, (by first | assumption | omega | trivial | decide +kernel), (by first | assumption | omega | trivial | decide +kernel), (by first | assumption | omega | trivial | decide +kernel), (by first | assumption | omega | trivial | decide +kernel), hR_md_39, (by first | assumption | omega | trivial | decide +kernel), (by first | exact hfi1.1 | exact fun q => clI_bad hcl1.2 hpn ((col_1 (f := mt) hcl1.1 md).1.mp q))⟩)) dX9_column_44
    have ec_50 : (1 : Int32).toInt = 1 := by decide +kernel
    exact loop27 ((2 * (m_taped - 0) + (1 : Int32).toInt.toNat) + 1) (1 : Int32) 0 0 md (Nat.lt_succ_self _) (by first | assumption | omega | decide +kernel) (by first | assumption | omega | decide +kernel) (by first | assumption | omega | decide +kernel) (fun h9 => by first | exact ⟨by omega, clI_0 mt m_taped md⟩ | (exfalso; revert h9; decide)) (fun h9 => by first | (exfalso; revert h9; decide) | (have q := (col_0 (f := mt) (n := m_taped) (by omega) md); exact ⟨q.1, q.2.1.symm, q.2.2.symm⟩)) (by first | assumption | omega | decide +kernel) (by first | assumption | omega | decide +kernel) hR_md _ _ ls hP hD hS (lv_sub hl [0, 1] rfl)
