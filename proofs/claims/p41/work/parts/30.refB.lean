abbrev wl_k_X9_readsRow (cI cJ cK : ClassId) (m0 : Nat) (a_row : Nat) (a_tape : Nat) (a_number : Nat) (a_read : Nat) (a_readBits : Nat) (a_stands : Nat) (a_parted : Nat) (a_bitsWere : Nat) (a_stood : Nat) (a_chosen : Nat) (a_bestChosen : Nat) (a_often : Nat) (a_sorted : Nat) (a_risen : Nat) (a_risenWays : Nat) (v0_ : Int32) (v1_ : Int32) (v2_ : Int32) (v3_ : Int32) (v4_ : Int32) (v5_ : Int32) (v6_ : Int32) (v7_ : Int32) (v8_ : Int32) (v9_ : Nat → Int32) (v10_ : Nat → Int32) : va_W := [(m0, .inr (9, [.int v0_, .int v1_, .ref a_row, .ref a_tape, .int v2_, .int v3_, .int v4_, .int v5_, .ref a_number, .ref a_read, .int v6_, .ref a_readBits, .ref a_stands, .ref a_parted, .ref a_bitsWere, .ref a_stood, .ref a_chosen, .ref a_bestChosen, .int v7_, .ref a_often, .ref a_sorted, .int v8_, .ref a_risen, .ref a_risenWays])), (a_tape, .inl (cI, 100, .inl v9_)), (a_readBits, .inl (cI, 88, .inl v10_))]
set_option maxHeartbeats 4000000 in
set_option maxRecDepth 100000 in
theorem k_X9_readsRow (l : Launch) (D : va_G) (cI cJ cK : ClassId) (m0 : Nat) (a_row : Nat) (a_tape : Nat) (a_number : Nat) (a_read : Nat) (a_readBits : Nat) (a_stands : Nat) (a_parted : Nat) (a_bitsWere : Nat) (a_stood : Nat) (a_chosen : Nat) (a_bestChosen : Nat) (a_often : Nat) (a_sorted : Nat) (a_risen : Nat) (a_risenWays : Nat) (m_thrown : Int32) (m_told : Nat) (m_taped : Nat) (m_at : Nat) (m_to : Nat) (m_many : Nat) (m_readMany : Nat) (m_fewest : Int32) (m_size : Nat) (mt : Nat → Int32) (mb : Nat → Int32) (j : Nat) (hz_m_told : m_told ≤ 64) (hz_m_taped : m_taped ≤ 100) (hz_m_at : m_at ≤ 100) (hz_m_to : m_to ≤ 100) (hz_m_many : m_many ≤ 64) (hz_m_readMany : m_readMany ≤ 64) (hz_m_size : m_size ≤ 64) (hR_mt : RB 0 255 mt) (hR_mb : RB 0 1 mb) (hj : j < 8) (hm : j = 0 ∨ m_readMany ≤ 11) (hat : m_at ≤ m_to) : ctI l yX9_readsRow wsX9_readsRow ({ frames := 2, cells := 0, slots := 0, locals := 120 } : Room) D (tyIJ cI cJ cK) [.ref m0, .int (nI j)] (wl_k_X9_readsRow cI cJ cK m0 a_row a_tape a_number a_read a_readBits a_stands a_parted a_bitsWere a_stood a_chosen a_bestChosen a_often a_sorted a_risen a_risenWays m_thrown (nI m_told) (nI m_taped) (nI m_at) (nI m_to) (nI m_many) (nI m_readMany) m_fewest (nI m_size) mt mb) (fun (r : Int32) (u : va_W) => (∃ (m_at' : Nat) (m_readMany' : Nat) (mb' : Nat → Int32), u = (wl_k_X9_readsRow cI cJ cK m0 a_row a_tape a_number a_read a_readBits a_stands a_parted a_bitsWere a_stood a_chosen a_bestChosen a_often a_sorted a_risen a_risenWays m_thrown (nI m_told) (nI m_taped) (nI m_at') (nI m_to) (nI m_many) (nI m_readMany') m_fewest (nI m_size) mt mb') ∧ r = 1 ∧ m_at' ≤ 100 ∧ m_readMany' ≤ 64 ∧ RB 0 1 mb' ∧ m_readMany' ≤ 11 ∧ m_readMany' = blen mt m_to (rmo j m_readMany) m_at ∧ (j ≠ 0 → m_readMany' = m_readMany) ∧ (j < 7 → m_at + m_readMany' < m_to ∧ (mt (m_at + m_readMany')).toInt = 47 ∧ m_at' = m_at + m_readMany' + 1) ∧ (j = 7 → m_at + m_readMany' = m_to) ∧ m_at' ≤ m_to ∧ (∀ i, i < m_readMany' → mb' (11 * j + i) = nI (bN (decide ((mt (m_at + i)).toInt = 49)))) ∧ (∀ q, q < 11 * j → mb' q = mb q)) ∨ (∃ (m_at' : Nat) (m_readMany' : Nat) (mb' : Nat → Int32), u = (wl_k_X9_readsRow cI cJ cK m0 a_row a_tape a_number a_read a_readBits a_stands a_parted a_bitsWere a_stood a_chosen a_bestChosen a_often a_sorted a_risen a_risenWays m_thrown (nI m_told) (nI m_taped) (nI m_at') (nI m_to) (nI m_many) (nI m_readMany') m_fewest (nI m_size) mt mb') ∧ r = 0 ∧ m_at' ≤ 100 ∧ m_readMany' ≤ 64 ∧ RB 0 1 mb' ∧ m_readMany' ≤ 11 ∧ m_at' = m_at + blen mt m_to (rmo j m_readMany) m_at ∧ (j ≠ 0 → m_readMany' = m_readMany) ∧ (j = 0 → m_readMany' = blen mt m_to (rmo j m_readMany) m_at) ∧ (blen mt m_to (rmo j m_readMany) m_at ≠ m_readMany' ∨ (j < 7 ∧ (m_to ≤ m_at' ∨ (mt m_at').toInt ≠ 47)) ∨ (j = 7 ∧ m_at' ≠ m_to)) ∧ m_at' ≤ m_to)) := by
  refine ctI.of (cc := cX9_readsRow) (maxL := 3) (ret := (some .boolean)) (by decide) rfl (Nat.le_of_ble_eq_true rfl) ?_
  intro p e s m below meth c ls A hx hb hr hts hown hml hlocks hname hA hK hN hP hD hS hl
  have hl : lv_has ls 3 [(0, .ref m0), (1, .int (nI j))] := hl
  have hown : s.vm.findClass RX9 = some m.cls := hown
  have hi9 : ∀ w ∈ u_ws RX9 TX9 24, w ∈ wsX9_readsRow := by decide +kernel
  have fl17 := hts (.fieldLink RX9 17 "PlaneColumnModel" "tape" "[I") (by decide +kernel)
  have fl25 := hts (.fieldLink RX9 25 "PlaneColumnModel" "to" "I") (by decide +kernel)
  have fl28 := hts (.fieldLink RX9 28 "PlaneColumnModel" "at" "I") (by decide +kernel)
  have fl55 := hts (.fieldLink RX9 55 "PlaneColumnModel" "readBits" "[I") (by decide +kernel)
  have fl93 := hts (.fieldLink RX9 93 "PlaneColumnModel" "readMany" "I") (by decide +kernel)
  refine lv_iconst (v := 0) hx hb dX9_readsRow_0 (by decide +kernel) ?_
  refine lv_istore_n (lv' := [(2, .int 0), (0, .ref m0), (1, .int (nI j))]) hx hb dX9_readsRow_1 rfl hl (by decide) rfl (fun ls hl => ?_)
  have loop2 : ∀ (n9 : Nat) (k : Nat) (m0_at_2 : Nat) (a_readBits_2 : Nat → Int32), 11 - k < n9 → (k ≤ 11) → (m0_at_2 = m_at + k) → (m0_at_2 ≤ m_to) → (k ≤ (rmo j m_readMany)) → (blen mt m_to (rmo j m_readMany) m_at = k + blen mt m_to ((rmo j m_readMany) - k) m0_at_2) → (∀ i, i < k → a_readBits_2 (11 * j + i) = nI (bN (decide ((mt (m_at + i)).toInt = 49)))) → (∀ q, q < 11 * j → a_readBits_2 q = mb q) → (m0_at_2 ≤ 100) → (RB 0 1 a_readBits_2) → ∀ (H : Heap) (locs : List Loc) (ls : Array Slot), va_P D vwCl (wl_k_X9_readsRow cI cJ cK m0 a_row a_tape a_number a_read a_readBits a_stands a_parted a_bitsWere a_stood a_chosen a_bestChosen a_often a_sorted a_risen a_risenWays m_thrown (nI m_told) (nI m_taped) (nI m0_at_2) (nI m_to) (nI m_many) (nI m_readMany) m_fewest (nI m_size) mt a_readBits_2) H → va_D A (wl_k_X9_readsRow cI cJ cK m0 a_row a_tape a_number a_read a_readBits a_stands a_parted a_bitsWere a_stood a_chosen a_bestChosen a_often a_sorted a_risen a_risenWays m_thrown (nI m_told) (nI m_taped) (nI m0_at_2) (nI m_to) (nI m_many) (nI m_readMany) m_fewest (nI m_size) mt a_readBits_2) → va_S A s.heap H locs → lv_has ls 3 [(2, .int (nI k)), (0, .ref m0), (1, .int (nI j))] → W p l e ({ frames := 2, cells := 0, slots := 0, locals := 120 } : Room) s m [.ref m0, .int (nI j)].toArray below meth c H locs 0 0 (MQ below (va_Qi (fun (r : Int32) (u : va_W) => (∃ (m_at' : Nat) (m_readMany' : Nat) (mb' : Nat → Int32), u = (wl_k_X9_readsRow cI cJ cK m0 a_row a_tape a_number a_read a_readBits a_stands a_parted a_bitsWere a_stood a_chosen a_bestChosen a_often a_sorted a_risen a_risenWays m_thrown (nI m_told) (nI m_taped) (nI m_at') (nI m_to) (nI m_many) (nI m_readMany') m_fewest (nI m_size) mt mb') ∧ r = 1 ∧ m_at' ≤ 100 ∧ m_readMany' ≤ 64 ∧ RB 0 1 mb' ∧ m_readMany' ≤ 11 ∧ m_readMany' = blen mt m_to (rmo j m_readMany) m_at ∧ (j ≠ 0 → m_readMany' = m_readMany) ∧ (j < 7 → m_at + m_readMany' < m_to ∧ (mt (m_at + m_readMany')).toInt = 47 ∧ m_at' = m_at + m_readMany' + 1) ∧ (j = 7 → m_at + m_readMany' = m_to) ∧ m_at' ≤ m_to ∧ (∀ i, i < m_readMany' → mb' (11 * j + i) = nI (bN (decide ((mt (m_at + i)).toInt = 49)))) ∧ (∀ q, q < 11 * j → mb' q = mb q)) ∨ (∃ (m_at' : Nat) (m_readMany' : Nat) (mb' : Nat → Int32), u = (wl_k_X9_readsRow cI cJ cK m0 a_row a_tape a_number a_read a_readBits a_stands a_parted a_bitsWere a_stood a_chosen a_bestChosen a_often a_sorted a_risen a_risenWays m_thrown (nI m_told) (nI m_taped) (nI m_at') (nI m_to) (nI m_many) (nI m_readMany') m_fewest (nI m_size) mt mb') ∧ r = 0 ∧ m_at' ≤ 100 ∧ m_readMany' ≤ 64 ∧ RB 0 1 mb' ∧ m_readMany' ≤ 11 ∧ m_at' = m_at + blen mt m_to (rmo j m_readMany) m_at ∧ (j ≠ 0 → m_readMany' = m_readMany) ∧ (j = 0 → m_readMany' = blen mt m_to (rmo j m_readMany) m_at) ∧ (blen mt m_to (rmo j m_readMany) m_at ≠ m_readMany' ∨ (j < 7 ∧ (m_to ≤ m_at' ∨ (mt m_at').toInt ≠ 47)) ∨ (j = 7 ∧ m_at' ≠ m_to)) ∧ m_at' ≤ m_to)) (my_B D (tyIJ cI cJ cK) A) A) [.ref m0, .int (nI j)].toArray s 0 0 A) (F0 m 2 ls []) := by
    intro n9
    induction n9 with
    | zero =>
      intro k m0_at_2 a_readBits_2 hn9
      exact absurd hn9 (Nat.not_lt_zero _)
    | succ n9 ih2 =>
      intro k m0_at_2 a_readBits_2 hn9 hk_k hra hrb hrk hbl hb1 hb2 hz_m0_at_2 hR_a_readBits_2 H locs ls hP hD hS hl
      have hrm := rmo_or j m_readMany
      refine lv_aload_n hx hb dX9_readsRow_2 rfl (lv_at hl 1 rfl) ?_
      refine va_get (ci := 9) (v := .int (nI m0_at_2)) (C := RX9) (T := TX9) (N := 24) hx hb hts hi9 hown hK hP 0 rfl rfl 5 (by decide) fl28 (fun _ h9 => h9) rfl dX9_readsRow_3 ?_
      refine lv_aload_n hx hb dX9_readsRow_6 rfl (lv_at hl 1 rfl) ?_
      refine va_get (ci := 9) (v := .int (nI m_to)) (C := RX9) (T := TX9) (N := 24) hx hb hts hi9 hown hK hP 0 rfl rfl 6 (by decide) fl25 (fun _ h9 => h9) rfl dX9_readsRow_7 ?_
      refine lv_icmp_ge (tgt := 97) hx hb dX9_readsRow_10 (by decide) (fun c10 => ?_) (fun c10 => ?_)
      ·
        have d10 : ((m0_at_2 : Nat) : Int) ≥ ((m_to : Nat) : Int) := my_ge c10 (nI_toInt (by omega)) (nI_toInt (by omega))
        have hex := bl_exit (f := mt) (n := m_to) (m := (rmo j m_readMany)) (k := k) (a := m0_at_2) (by first | (left; omega) | (right; exact bitS_no (by omega)))
        have hkb : k = blen mt m_to (rmo j m_readMany) m_at := by omega
        refine lv_iload_n hx hb dX9_readsRow_97 rfl (lv_at hl 2 rfl) ?_
        refine lv_if_ne (tgt := 106) hx hb dX9_readsRow_98 (by decide) (fun c98 => ?_) (fun c98 => ?_)
        ·
          have d98 : ((j : Nat) : Int) ≠ (0 : Int) := my_ne c98 (nI_toInt (by omega)) (by decide +kernel)
          refine lv_iload_n hx hb dX9_readsRow_106 rfl (lv_at hl 0 rfl) ?_
          refine lv_aload_n hx hb dX9_readsRow_107 rfl (lv_at hl 1 rfl) ?_
          refine va_get (ci := 9) (v := .int (nI m_readMany)) (C := RX9) (T := TX9) (N := 24) hx hb hts hi9 hown hK hP 0 rfl rfl 10 (by decide) fl93 (fun _ h9 => h9) rfl dX9_readsRow_108 ?_
          refine lv_icmp_ne (tgt := 147) hx hb dX9_readsRow_111 (by decide) (fun c111 => ?_) (fun c111 => ?_)
          ·
            have d111 : ((k : Nat) : Int) ≠ ((m_readMany : Nat) : Int) := my_ne c111 (nI_toInt (by omega)) (nI_toInt (by omega))
            refine lv_iconst (v := 0) hx hb dX9_readsRow_147 (by decide +kernel) ?_
            exact my_retZ hx hb hr hlocks (by decide +kernel) hK hS (wl_k_X9_readsRow cI cJ cK m0 a_row a_tape a_number a_read a_readBits a_stands a_parted a_bitsWere a_stood a_chosen a_bestChosen a_often a_sorted a_risen a_risenWays m_thrown (nI m_told) (nI m_taped) (nI m0_at_2) (nI m_to) (nI m_many) (nI m_readMany) m_fewest (nI m_size) mt a_readBits_2) hP hD (Or.inr (⟨m0_at_2, m_readMany, a_readBits_2, rfl, rfl, (by first | assumption | omega | trivial | decide +kernel), (by first | assumption | omega | trivial | decide +kernel), hR_a_readBits_2, (by first | assumption | omega | trivial | decide +kernel), (by omega), (fun h9 => by omega), (fun h9 => by omega), (by first | (intro h9; exfalso; omega) | (intro h9; subst hra; first | exact ⟨by omega, by assumption, by omega⟩ | (obtain rfl : k = m_readMany := (by omega); exact ⟨by omega, by assumption, by omega⟩)) | omega), (by first | assumption | omega | trivial | decide +kernel)⟩)) dX9_readsRow_148
          ·
            have d111 : ((k : Nat) : Int) = ((m_readMany : Nat) : Int) := my_eq c111 (nI_toInt (by omega)) (nI_toInt (by omega))
            refine lv_iload_n hx hb dX9_readsRow_114 rfl (lv_at hl 2 rfl) ?_
            refine lv_bipush (v := 7) hx hb dX9_readsRow_115 (by decide +kernel) ?_
            refine lv_icmp_ge (tgt := 132) hx hb dX9_readsRow_117 (by decide) (fun c117 => ?_) (fun c117 => ?_)
            ·
              have d117 : ((j : Nat) : Int) ≥ (7 : Int) := my_ge c117 (nI_toInt (by omega)) (by decide +kernel)
              refine lv_aload_n hx hb dX9_readsRow_132 rfl (lv_at hl 1 rfl) ?_
              refine va_get (ci := 9) (v := .int (nI m0_at_2)) (C := RX9) (T := TX9) (N := 24) hx hb hts hi9 hown hK hP 0 rfl rfl 5 (by decide) fl28 (fun _ h9 => h9) rfl dX9_readsRow_133 ?_
              refine lv_aload_n hx hb dX9_readsRow_136 rfl (lv_at hl 1 rfl) ?_
              refine va_get (ci := 9) (v := .int (nI m_to)) (C := RX9) (T := TX9) (N := 24) hx hb hts hi9 hown hK hP 0 rfl rfl 6 (by decide) fl25 (fun _ h9 => h9) rfl dX9_readsRow_137 ?_
              refine lv_icmp_ne (tgt := 147) hx hb dX9_readsRow_140 (by decide) (fun c140 => ?_) (fun c140 => ?_)
              ·
                have d140 : ((m0_at_2 : Nat) : Int) ≠ ((m_to : Nat) : Int) := my_ne c140 (nI_toInt (by omega)) (nI_toInt (by omega))
                refine lv_iconst (v := 0) hx hb dX9_readsRow_147 (by decide +kernel) ?_
                exact my_retZ hx hb hr hlocks (by decide +kernel) hK hS (wl_k_X9_readsRow cI cJ cK m0 a_row a_tape a_number a_read a_readBits a_stands a_parted a_bitsWere a_stood a_chosen a_bestChosen a_often a_sorted a_risen a_risenWays m_thrown (nI m_told) (nI m_taped) (nI m0_at_2) (nI m_to) (nI m_many) (nI m_readMany) m_fewest (nI m_size) mt a_readBits_2) hP hD (Or.inr (⟨m0_at_2, m_readMany, a_readBits_2, rfl, rfl, (by first | assumption | omega | trivial | decide +kernel), (by first | assumption | omega | trivial | decide +kernel), hR_a_readBits_2, (by first | assumption | omega | trivial | decide +kernel), (by omega), (fun h9 => by omega), (fun h9 => by omega), (by first | (intro h9; exfalso; omega) | (intro h9; subst hra; first | exact ⟨by omega, by assumption, by omega⟩ | (obtain rfl : k = m_readMany := (by omega); exact ⟨by omega, by assumption, by omega⟩)) | omega), (by first | assumption | omega | trivial | decide +kernel)⟩)) dX9_readsRow_148
              ·
                have d140 : ((m0_at_2 : Nat) : Int) = ((m_to : Nat) : Int) := my_eq c140 (nI_toInt (by omega)) (nI_toInt (by omega))
                refine lv_iconst (v := 1) hx hb dX9_readsRow_143 (by decide +kernel) ?_
                refine lv_goto (tgt := 148) hx hb dX9_readsRow_144 (by decide) ?_
                exact my_retZ hx hb hr hlocks (by decide +kernel) hK hS (wl_k_X9_readsRow cI cJ cK m0 a_row a_tape a_number a_read a_readBits a_stands a_parted a_bitsWere a_stood a_chosen a_bestChosen a_often a_sorted a_risen a_risenWays m_thrown (nI m_told) (nI m_taped) (nI m0_at_2) (nI m_to) (nI m_many) (nI m_readMany) m_fewest (nI m_size) mt a_readBits_2) hP hD (Or.inl ⟨m0_at_2, m_readMany, a_readBits_2, rfl, rfl, (by first | assumption | omega | trivial | decide +kernel), (by first | assumption | omega | trivial | decide +kernel), hR_a_readBits_2, (by first | assumption | omega | trivial | decide +kernel), (by omega), (fun h9 => by omega), (by first | (intro h9; exfalso; omega) | (intro h9; subst hra; first | exact ⟨by omega, by assumption, by omega⟩ | (obtain rfl : k = m_readMany := (by omega); exact ⟨by omega, by assumption, by omega⟩)) | omega), (fun h9 => by omega), (by first | assumption | omega | trivial | decide +kernel), (fun i hi => hb1 i (by omega)), hb2⟩) dX9_readsRow_148
            ·
              have d117 : ((j : Nat) : Int) < (7 : Int) := my_nge c117 (nI_toInt (by omega)) (by decide +kernel)
              refine lv_aload_n hx hb dX9_readsRow_120 rfl (lv_at hl 1 rfl) ?_
              refine lv_bipush (v := 47) hx hb dX9_readsRow_121 (by decide +kernel) ?_
              refine my_goIS (wc := (wl_k_X9_takes cI cJ cK m0 a_row a_tape a_number a_read a_readBits a_stands a_parted a_bitsWere a_stood a_chosen a_bestChosen a_often a_sorted a_risen a_risenWays m_thrown (nI m_told) (nI m_taped) (nI m0_at_2) (nI m_to) (nI m_many) (nI m_readMany) m_fewest (nI m_size) mt)) hP hD hS hA [0, 1] rfl [some 0, some 1] (by decide +kernel) (my_cV (As := [.int 47]) (rest := []) (ci := 9) (wc := (wl_k_X9_takes cI cJ cK m0 a_row a_tape a_number a_read a_readBits a_stands a_parted a_bitsWere a_stood a_chosen a_bestChosen a_often a_sorted a_risen a_risenWays m_thrown (nI m_told) (nI m_taped) (nI m0_at_2) (nI m_to) (nI m_many) (nI m_readMany) m_fewest (nI m_size) mt)) ⟨hx, hb, hml, hown, hts⟩ (cwV 1 hts gX9_readsRow_X9_takes rfl rfl rfl (by decide +kernel) ⟨Nat.le_of_ble_eq_true rfl, Nat.le_of_ble_eq_true rfl⟩) hN hK hP hD [0, 1] rfl (by decide) rfl 0 rfl rfl rfl rfl hl.1 rfl (Nat.le_of_ble_eq_true rfl) dX9_readsRow_123 ⟨Nat.le_of_ble_eq_true rfl, Nat.le_of_ble_eq_true rfl⟩  ((k_X9_takes l D cI cJ cK m0 a_row a_tape a_number a_read a_readBits a_stands a_parted a_bitsWere a_stood a_chosen a_bestChosen a_often a_sorted a_risen a_risenWays m_thrown m_told m_taped m0_at_2 m_to m_many m_readMany m_fewest m_size mt (47 : Int32) (47 : Int) (by decide +kernel) (by first | assumption | omega | decide +kernel) (by first | assumption | omega | decide +kernel) (by first | assumption | omega | decide +kernel) (by first | assumption | omega | decide +kernel) (by first | assumption | omega | decide +kernel) (by first | assumption | omega | decide +kernel) (by first | assumption | omega | decide +kernel) hR_mt) _)) (fun r u H locs hp hPD hS => ?_)
              rcases hp with ⟨rfl, rfl, hc_1, he_2⟩ | ⟨rfl, rfl, ho_3⟩
              ·
                obtain ⟨hP, hD⟩ := hPD rfl
                have hP : va_P D vwCl (wl_k_X9_readsRow cI cJ cK m0 a_row a_tape a_number a_read a_readBits a_stands a_parted a_bitsWere a_stood a_chosen a_bestChosen a_often a_sorted a_risen a_risenWays m_thrown (nI m_told) (nI m_taped) (nI (m0_at_2 + 1)) (nI m_to) (nI m_many) (nI m_readMany) m_fewest (nI m_size) mt a_readBits_2) H := hP
                have hD : va_D A (wl_k_X9_readsRow cI cJ cK m0 a_row a_tape a_number a_read a_readBits a_stands a_parted a_bitsWere a_stood a_chosen a_bestChosen a_often a_sorted a_risen a_risenWays m_thrown (nI m_told) (nI m_taped) (nI (m0_at_2 + 1)) (nI m_to) (nI m_many) (nI m_readMany) m_fewest (nI m_size) mt a_readBits_2) := hD
                refine lv_if_eq (tgt := 147) hx hb dX9_readsRow_126 (by decide) (fun c126 => ?_) (fun c126 => ?_)
                ·
                  exact absurd c126 (by decide +kernel)
                ·
                  refine lv_goto (tgt := 143) hx hb dX9_readsRow_129 (by decide) ?_
                  refine lv_iconst (v := 1) hx hb dX9_readsRow_143 (by decide +kernel) ?_
                  refine lv_goto (tgt := 148) hx hb dX9_readsRow_144 (by decide) ?_
                  exact my_retZ hx hb hr hlocks (by decide +kernel) hK hS (wl_k_X9_readsRow cI cJ cK m0 a_row a_tape a_number a_read a_readBits a_stands a_parted a_bitsWere a_stood a_chosen a_bestChosen a_often a_sorted a_risen a_risenWays m_thrown (nI m_told) (nI m_taped) (nI (m0_at_2 + 1)) (nI m_to) (nI m_many) (nI m_readMany) m_fewest (nI m_size) mt a_readBits_2) hP hD (Or.inl ⟨(m0_at_2 + 1), m_readMany, a_readBits_2, rfl, rfl, (by first | assumption | omega | trivial | decide +kernel), (by first | assumption | omega | trivial | decide +kernel), hR_a_readBits_2, (by first | assumption | omega | trivial | decide +kernel), (by omega), (fun h9 => by omega), (by first | (intro h9; exfalso; omega) | (intro h9; subst hra; first | exact ⟨by omega, by assumption, by omega⟩ | (obtain rfl : k = m_readMany := (by omega); exact ⟨by omega, by assumption, by omega⟩)) | omega), (fun h9 => by omega), (by first | assumption | omega | trivial | decide +kernel), (fun i hi => hb1 i (by omega)), hb2⟩) dX9_readsRow_148
              ·
                obtain ⟨hP, hD⟩ := hPD rfl
                have hP : va_P D vwCl (wl_k_X9_readsRow cI cJ cK m0 a_row a_tape a_number a_read a_readBits a_stands a_parted a_bitsWere a_stood a_chosen a_bestChosen a_often a_sorted a_risen a_risenWays m_thrown (nI m_told) (nI m_taped) (nI m0_at_2) (nI m_to) (nI m_many) (nI m_readMany) m_fewest (nI m_size) mt a_readBits_2) H := hP
                have hD : va_D A (wl_k_X9_readsRow cI cJ cK m0 a_row a_tape a_number a_read a_readBits a_stands a_parted a_bitsWere a_stood a_chosen a_bestChosen a_often a_sorted a_risen a_risenWays m_thrown (nI m_told) (nI m_taped) (nI m0_at_2) (nI m_to) (nI m_many) (nI m_readMany) m_fewest (nI m_size) mt a_readBits_2) := hD
                refine lv_if_eq (tgt := 147) hx hb dX9_readsRow_126 (by decide) (fun c126 => ?_) (fun c126 => ?_)
                ·
                  refine lv_iconst (v := 0) hx hb dX9_readsRow_147 (by decide +kernel) ?_
                  exact my_retZ hx hb hr hlocks (by decide +kernel) hK hS (wl_k_X9_readsRow cI cJ cK m0 a_row a_tape a_number a_read a_readBits a_stands a_parted a_bitsWere a_stood a_chosen a_bestChosen a_often a_sorted a_risen a_risenWays m_thrown (nI m_told) (nI m_taped) (nI m0_at_2) (nI m_to) (nI m_many) (nI m_readMany) m_fewest (nI m_size) mt a_readBits_2) hP hD (Or.inr (⟨m0_at_2, m_readMany, a_readBits_2, rfl, rfl, (by first | assumption | omega | trivial | decide +kernel), (by first | assumption | omega | trivial | decide +kernel), hR_a_readBits_2, (by first | assumption | omega | trivial | decide +kernel), (by omega), (fun h9 => by omega), (fun h9 => by omega), (by first | (intro h9; exfalso; omega) | (intro h9; subst hra; first | exact ⟨by omega, by assumption, by omega⟩ | (obtain rfl : k = m_readMany := (by omega); exact ⟨by omega, by assumption, by omega⟩)) | omega), (by first | assumption | omega | trivial | decide +kernel)⟩)) dX9_readsRow_148
                ·
                  exact absurd c126 (by decide +kernel)
        ·
          have d98 : ((j : Nat) : Int) = (0 : Int) := my_eq c98 (nI_toInt (by omega)) (by decide +kernel)
          refine lv_aload_n hx hb dX9_readsRow_101 rfl (lv_at hl 1 rfl) ?_
          refine lv_iload_n hx hb dX9_readsRow_102 rfl (lv_at hl 0 rfl) ?_
          refine va_put (ci := 9) (v := .int (nI k)) (ty := (.int)) (C := RX9) (T := TX9) (N := 24) hx hb hts hi9 tyX9 tyX9_ok nmX9 hown hK hP hD hS 0 rfl rfl 10 (by decide) fl93 (fun _ h9 => h9) rfl (by decide +kernel) rfl rfl (Nat.le_of_ble_eq_true rfl) dX9_readsRow_103 (fun H locs hP hD hS => ?_)
          have hP : va_P D vwCl (wl_k_X9_readsRow cI cJ cK m0 a_row a_tape a_number a_read a_readBits a_stands a_parted a_bitsWere a_stood a_chosen a_bestChosen a_often a_sorted a_risen a_risenWays m_thrown (nI m_told) (nI m_taped) (nI m0_at_2) (nI m_to) (nI m_many) (nI k) m_fewest (nI m_size) mt a_readBits_2) H := hP
          have hD : va_D A (wl_k_X9_readsRow cI cJ cK m0 a_row a_tape a_number a_read a_readBits a_stands a_parted a_bitsWere a_stood a_chosen a_bestChosen a_often a_sorted a_risen a_risenWays m_thrown (nI m_told) (nI m_taped) (nI m0_at_2) (nI m_to) (nI m_many) (nI k) m_fewest (nI m_size) mt a_readBits_2) := hD
          refine lv_iload_n hx hb dX9_readsRow_106 rfl (lv_at hl 0 rfl) ?_
          refine lv_aload_n hx hb dX9_readsRow_107 rfl (lv_at hl 1 rfl) ?_
          refine va_get (ci := 9) (v := .int (nI k)) (C := RX9) (T := TX9) (N := 24) hx hb hts hi9 hown hK hP 0 rfl rfl 10 (by decide) fl93 (fun _ h9 => h9) rfl dX9_readsRow_108 ?_
          refine lv_icmp_ne (tgt := 147) hx hb dX9_readsRow_111 (by decide) (fun c111 => ?_) (fun c111 => ?_)
          ·
            have d111 : ((k : Nat) : Int) ≠ ((k : Nat) : Int) := my_ne c111 (nI_toInt (by omega)) (nI_toInt (by omega))
            refine lv_iconst (v := 0) hx hb dX9_readsRow_147 (by decide +kernel) ?_
            exact my_retZ hx hb hr hlocks (by decide +kernel) hK hS (wl_k_X9_readsRow cI cJ cK m0 a_row a_tape a_number a_read a_readBits a_stands a_parted a_bitsWere a_stood a_chosen a_bestChosen a_often a_sorted a_risen a_risenWays m_thrown (nI m_told) (nI m_taped) (nI m0_at_2) (nI m_to) (nI m_many) (nI k) m_fewest (nI m_size) mt a_readBits_2) hP hD (Or.inr (⟨m0_at_2, k, a_readBits_2, rfl, rfl, (by first | assumption | omega | trivial | decide +kernel), (by first | assumption | omega | trivial | decide +kernel), hR_a_readBits_2, (by first | assumption | omega | trivial | decide +kernel), (by omega), (fun h9 => by omega), (fun h9 => by omega), (by first | (intro h9; exfalso; omega) | (intro h9; subst hra; first | exact ⟨by omega, by assumption, by omega⟩ | (obtain rfl : k = m_readMany := (by omega); exact ⟨by omega, by assumption, by omega⟩)) | omega), (by first | assumption | omega | trivial | decide +kernel)⟩)) dX9_readsRow_148
          ·
            have d111 : ((k : Nat) : Int) = ((k : Nat) : Int) := my_eq c111 (nI_toInt (by omega)) (nI_toInt (by omega))
            refine lv_iload_n hx hb dX9_readsRow_114 rfl (lv_at hl 2 rfl) ?_
            refine lv_bipush (v := 7) hx hb dX9_readsRow_115 (by decide +kernel) ?_
            refine lv_icmp_ge (tgt := 132) hx hb dX9_readsRow_117 (by decide) (fun c117 => ?_) (fun c117 => ?_)
            ·
              have d117 : ((j : Nat) : Int) ≥ (7 : Int) := my_ge c117 (nI_toInt (by omega)) (by decide +kernel)
              refine lv_aload_n hx hb dX9_readsRow_132 rfl (lv_at hl 1 rfl) ?_
              refine va_get (ci := 9) (v := .int (nI m0_at_2)) (C := RX9) (T := TX9) (N := 24) hx hb hts hi9 hown hK hP 0 rfl rfl 5 (by decide) fl28 (fun _ h9 => h9) rfl dX9_readsRow_133 ?_
              refine lv_aload_n hx hb dX9_readsRow_136 rfl (lv_at hl 1 rfl) ?_
              refine va_get (ci := 9) (v := .int (nI m_to)) (C := RX9) (T := TX9) (N := 24) hx hb hts hi9 hown hK hP 0 rfl rfl 6 (by decide) fl25 (fun _ h9 => h9) rfl dX9_readsRow_137 ?_
              refine lv_icmp_ne (tgt := 147) hx hb dX9_readsRow_140 (by decide) (fun c140 => ?_) (fun c140 => ?_)
              ·
                have d140 : ((m0_at_2 : Nat) : Int) ≠ ((m_to : Nat) : Int) := my_ne c140 (nI_toInt (by omega)) (nI_toInt (by omega))
                refine lv_iconst (v := 0) hx hb dX9_readsRow_147 (by decide +kernel) ?_
                exact my_retZ hx hb hr hlocks (by decide +kernel) hK hS (wl_k_X9_readsRow cI cJ cK m0 a_row a_tape a_number a_read a_readBits a_stands a_parted a_bitsWere a_stood a_chosen a_bestChosen a_often a_sorted a_risen a_risenWays m_thrown (nI m_told) (nI m_taped) (nI m0_at_2) (nI m_to) (nI m_many) (nI k) m_fewest (nI m_size) mt a_readBits_2) hP hD (Or.inr (⟨m0_at_2, k, a_readBits_2, rfl, rfl, (by first | assumption | omega | trivial | decide +kernel), (by first | assumption | omega | trivial | decide +kernel), hR_a_readBits_2, (by first | assumption | omega | trivial | decide +kernel), (by omega), (fun h9 => by omega), (fun h9 => by omega), (by first | (intro h9; exfalso; omega) | (intro h9; subst hra; first | exact ⟨by omega, by assumption, by omega⟩ | (obtain rfl : k = m_readMany := (by omega); exact ⟨by omega, by assumption, by omega⟩)) | omega), (by first | assumption | omega | trivial | decide +kernel)⟩)) dX9_readsRow_148
              ·
                have d140 : ((m0_at_2 : Nat) : Int) = ((m_to : Nat) : Int) := my_eq c140 (nI_toInt (by omega)) (nI_toInt (by omega))
                refine lv_iconst (v := 1) hx hb dX9_readsRow_143 (by decide +kernel) ?_
                refine lv_goto (tgt := 148) hx hb dX9_readsRow_144 (by decide) ?_
                exact my_retZ hx hb hr hlocks (by decide +kernel) hK hS (wl_k_X9_readsRow cI cJ cK m0 a_row a_tape a_number a_read a_readBits a_stands a_parted a_bitsWere a_stood a_chosen a_bestChosen a_often a_sorted a_risen a_risenWays m_thrown (nI m_told) (nI m_taped) (nI m0_at_2) (nI m_to) (nI m_many) (nI k) m_fewest (nI m_size) mt a_readBits_2) hP hD (Or.inl ⟨m0_at_2, k, a_readBits_2, rfl, rfl, (by first | assumption | omega | trivial | decide +kernel), (by first | assumption | omega | trivial | decide +kernel), hR_a_readBits_2, (by first | assumption | omega | trivial | decide +kernel), (by omega), (fun h9 => by omega), (by first | (intro h9; exfalso; omega) | (intro h9; subst hra; first | exact ⟨by omega, by assumption, by omega⟩ | (obtain rfl : k = m_readMany := (by omega); exact ⟨by omega, by assumption, by omega⟩)) | omega), (fun h9 => by omega), (by first | assumption | omega | trivial | decide +kernel), (fun i hi => hb1 i (by omega)), hb2⟩) dX9_readsRow_148
            ·
              have d117 : ((j : Nat) : Int) < (7 : Int) := my_nge c117 (nI_toInt (by omega)) (by decide +kernel)
              refine lv_aload_n hx hb dX9_readsRow_120 rfl (lv_at hl 1 rfl) ?_
              refine lv_bipush (v := 47) hx hb dX9_readsRow_121 (by decide +kernel) ?_
              refine my_goIS (wc := (wl_k_X9_takes cI cJ cK m0 a_row a_tape a_number a_read a_readBits a_stands a_parted a_bitsWere a_stood a_chosen a_bestChosen a_often a_sorted a_risen a_risenWays m_thrown (nI m_told) (nI m_taped) (nI m0_at_2) (nI m_to) (nI m_many) (nI k) m_fewest (nI m_size) mt)) hP hD hS hA [0, 1] rfl [some 0, some 1] (by decide +kernel) (my_cV (As := [.int 47]) (rest := []) (ci := 9) (wc := (wl_k_X9_takes cI cJ cK m0 a_row a_tape a_number a_read a_readBits a_stands a_parted a_bitsWere a_stood a_chosen a_bestChosen a_often a_sorted a_risen a_risenWays m_thrown (nI m_told) (nI m_taped) (nI m0_at_2) (nI m_to) (nI m_many) (nI k) m_fewest (nI m_size) mt)) ⟨hx, hb, hml, hown, hts⟩ (cwV 1 hts gX9_readsRow_X9_takes rfl rfl rfl (by decide +kernel) ⟨Nat.le_of_ble_eq_true rfl, Nat.le_of_ble_eq_true rfl⟩) hN hK hP hD [0, 1] rfl (by decide) rfl 0 rfl rfl rfl rfl hl.1 rfl (Nat.le_of_ble_eq_true rfl) dX9_readsRow_123 ⟨Nat.le_of_ble_eq_true rfl, Nat.le_of_ble_eq_true rfl⟩  ((k_X9_takes l D cI cJ cK m0 a_row a_tape a_number a_read a_readBits a_stands a_parted a_bitsWere a_stood a_chosen a_bestChosen a_often a_sorted a_risen a_risenWays m_thrown m_told m_taped m0_at_2 m_to m_many k m_fewest m_size mt (47 : Int32) (47 : Int) (by decide +kernel) (by first | assumption | omega | decide +kernel) (by first | assumption | omega | decide +kernel) (by first | assumption | omega | decide +kernel) (by first | assumption | omega | decide +kernel) (by first | assumption | omega | decide +kernel) (by first | assumption | omega | decide +kernel) (by first | assumption | omega | decide +kernel) hR_mt) _)) (fun r u H locs hp hPD hS => ?_)
              rcases hp with ⟨rfl, rfl, hc_4, he_5⟩ | ⟨rfl, rfl, ho_6⟩
              ·
                obtain ⟨hP, hD⟩ := hPD rfl
                have hP : va_P D vwCl (wl_k_X9_readsRow cI cJ cK m0 a_row a_tape a_number a_read a_readBits a_stands a_parted a_bitsWere a_stood a_chosen a_bestChosen a_often a_sorted a_risen a_risenWays m_thrown (nI m_told) (nI m_taped) (nI (m0_at_2 + 1)) (nI m_to) (nI m_many) (nI k) m_fewest (nI m_size) mt a_readBits_2) H := hP
                have hD : va_D A (wl_k_X9_readsRow cI cJ cK m0 a_row a_tape a_number a_read a_readBits a_stands a_parted a_bitsWere a_stood a_chosen a_bestChosen a_often a_sorted a_risen a_risenWays m_thrown (nI m_told) (nI m_taped) (nI (m0_at_2 + 1)) (nI m_to) (nI m_many) (nI k) m_fewest (nI m_size) mt a_readBits_2) := hD
                refine lv_if_eq (tgt := 147) hx hb dX9_readsRow_126 (by decide) (fun c126 => ?_) (fun c126 => ?_)
                ·
                  exact absurd c126 (by decide +kernel)
                ·
                  refine lv_goto (tgt := 143) hx hb dX9_readsRow_129 (by decide) ?_
                  refine lv_iconst (v := 1) hx hb dX9_readsRow_143 (by decide +kernel) ?_
                  refine lv_goto (tgt := 148) hx hb dX9_readsRow_144 (by decide) ?_
                  exact my_retZ hx hb hr hlocks (by decide +kernel) hK hS (wl_k_X9_readsRow cI cJ cK m0 a_row a_tape a_number a_read a_readBits a_stands a_parted a_bitsWere a_stood a_chosen a_bestChosen a_often a_sorted a_risen a_risenWays m_thrown (nI m_told) (nI m_taped) (nI (m0_at_2 + 1)) (nI m_to) (nI m_many) (nI k) m_fewest (nI m_size) mt a_readBits_2) hP hD (Or.inl ⟨(m0_at_2 + 1), k, a_readBits_2, rfl, rfl, (by first | assumption | omega | trivial | decide +kernel), (by first | assumption | omega | trivial | decide +kernel), hR_a_readBits_2, (by first | assumption | omega | trivial | decide +kernel), (by omega), (fun h9 => by omega), (by first | (intro h9; exfalso; omega) | (intro h9; subst hra; first | exact ⟨by omega, by assumption, by omega⟩ | (obtain rfl : k = m_readMany := (by omega); exact ⟨by omega, by assumption, by omega⟩)) | omega), (fun h9 => by omega), (by first | assumption | omega | trivial | decide +kernel), (fun i hi => hb1 i (by omega)), hb2⟩) dX9_readsRow_148
              ·
                obtain ⟨hP, hD⟩ := hPD rfl
                have hP : va_P D vwCl (wl_k_X9_readsRow cI cJ cK m0 a_row a_tape a_number a_read a_readBits a_stands a_parted a_bitsWere a_stood a_chosen a_bestChosen a_often a_sorted a_risen a_risenWays m_thrown (nI m_told) (nI m_taped) (nI m0_at_2) (nI m_to) (nI m_many) (nI k) m_fewest (nI m_size) mt a_readBits_2) H := hP
                have hD : va_D A (wl_k_X9_readsRow cI cJ cK m0 a_row a_tape a_number a_read a_readBits a_stands a_parted a_bitsWere a_stood a_chosen a_bestChosen a_often a_sorted a_risen a_risenWays m_thrown (nI m_told) (nI m_taped) (nI m0_at_2) (nI m_to) (nI m_many) (nI k) m_fewest (nI m_size) mt a_readBits_2) := hD
                refine lv_if_eq (tgt := 147) hx hb dX9_readsRow_126 (by decide) (fun c126 => ?_) (fun c126 => ?_)
                ·
                  refine lv_iconst (v := 0) hx hb dX9_readsRow_147 (by decide +kernel) ?_
                  exact my_retZ hx hb hr hlocks (by decide +kernel) hK hS (wl_k_X9_readsRow cI cJ cK m0 a_row a_tape a_number a_read a_readBits a_stands a_parted a_bitsWere a_stood a_chosen a_bestChosen a_often a_sorted a_risen a_risenWays m_thrown (nI m_told) (nI m_taped) (nI m0_at_2) (nI m_to) (nI m_many) (nI k) m_fewest (nI m_size) mt a_readBits_2) hP hD (Or.inr (⟨m0_at_2, k, a_readBits_2, rfl, rfl, (by first | assumption | omega | trivial | decide +kernel), (by first | assumption | omega | trivial | decide +kernel), hR_a_readBits_2, (by first | assumption | omega | trivial | decide +kernel), (by omega), (fun h9 => by omega), (fun h9 => by omega), (by first | (intro h9; exfalso; omega) | (intro h9; subst hra; first | exact ⟨by omega, by assumption, by omega⟩ | (obtain rfl : k = m_readMany := (by omega); exact ⟨by omega, by assumption, by omega⟩)) | omega), (by first | assumption | omega | trivial | decide +kernel)⟩)) dX9_readsRow_148
                ·
                  exact absurd c126 (by decide +kernel)
      ·
        have d10 : ((m0_at_2 : Nat) : Int) < ((m_to : Nat) : Int) := my_nge c10 (nI_toInt (by omega)) (nI_toInt (by omega))
        refine lv_aload_n hx hb dX9_readsRow_13 rfl (lv_at hl 1 rfl) ?_
        refine va_get (ci := 9) (v := .ref a_tape) (C := RX9) (T := TX9) (N := 24) hx hb hts hi9 hown hK hP 0 rfl rfl 3 (by decide) fl17 (fun _ h9 => h9) rfl dX9_readsRow_14 ?_
        refine lv_aload_n hx hb dX9_readsRow_17 rfl (lv_at hl 1 rfl) ?_
        refine va_get (ci := 9) (v := .int (nI m0_at_2)) (C := RX9) (T := TX9) (N := 24) hx hb hts hi9 hown hK hP 0 rfl rfl 5 (by decide) fl28 (fun _ h9 => h9) rfl dX9_readsRow_18 ?_
        refine va_iald hx hb hK hP 1 0 rfl rfl (vp_in_nI (by omega) (by omega)) dX9_readsRow_21 ?_
        refine my_eqi (y := mt m0_at_2) (congrArg mt (nI_clamp (by omega))) ?_
        have hb_7 := hR_mt m0_at_2
        refine lv_bipush (v := 48) hx hb dX9_readsRow_22 (by decide +kernel) ?_
        refine lv_icmp_eq (tgt := 41) hx hb dX9_readsRow_24 (by decide) (fun c24 => ?_) (fun c24 => ?_)
        ·
          have d24 : (mt m0_at_2).toInt = (48 : Int) := my_eq c24 rfl (by decide +kernel)
          refine lv_iload_n hx hb dX9_readsRow_41 rfl (lv_at hl 0 rfl) ?_
          refine lv_iload_n hx hb dX9_readsRow_42 rfl (lv_at hl 2 rfl) ?_
          refine lv_if_ne (tgt := 51) hx hb dX9_readsRow_43 (by decide) (fun c43 => ?_) (fun c43 => ?_)
          ·
            have d43 : ((j : Nat) : Int) ≠ (0 : Int) := my_ne c43 (nI_toInt (by omega)) (by decide +kernel)
            refine lv_aload_n hx hb dX9_readsRow_51 rfl (lv_at hl 1 rfl) ?_
            refine va_get (ci := 9) (v := .int (nI m_readMany)) (C := RX9) (T := TX9) (N := 24) hx hb hts hi9 hown hK hP 0 rfl rfl 10 (by decide) fl93 (fun _ h9 => h9) rfl dX9_readsRow_52 ?_
            refine lv_icmp_ge (tgt := 97) hx hb dX9_readsRow_55 (by decide) (fun c55 => ?_) (fun c55 => ?_)
            ·
              have d55 : ((k : Nat) : Int) ≥ ((m_readMany : Nat) : Int) := my_ge c55 (nI_toInt (by omega)) (nI_toInt (by omega))
              have hex := bl_exit (f := mt) (n := m_to) (m := (rmo j m_readMany)) (k := k) (a := m0_at_2) (by first | (left; omega) | (right; exact bitS_no (by omega)))
              have hkb : k = blen mt m_to (rmo j m_readMany) m_at := by omega
              refine lv_iload_n hx hb dX9_readsRow_97 rfl (lv_at hl 2 rfl) ?_
              refine lv_if_ne (tgt := 106) hx hb dX9_readsRow_98 (by decide) (fun c98 => ?_) (fun c98 => ?_)
              ·
                have d98 : ((j : Nat) : Int) ≠ (0 : Int) := my_ne c98 (nI_toInt (by omega)) (by decide +kernel)
                refine lv_iload_n hx hb dX9_readsRow_106 rfl (lv_at hl 0 rfl) ?_
                refine lv_aload_n hx hb dX9_readsRow_107 rfl (lv_at hl 1 rfl) ?_
                refine va_get (ci := 9) (v := .int (nI m_readMany)) (C := RX9) (T := TX9) (N := 24) hx hb hts hi9 hown hK hP 0 rfl rfl 10 (by decide) fl93 (fun _ h9 => h9) rfl dX9_readsRow_108 ?_
                refine lv_icmp_ne (tgt := 147) hx hb dX9_readsRow_111 (by decide) (fun c111 => ?_) (fun c111 => ?_)
                ·
                  have d111 : ((k : Nat) : Int) ≠ ((m_readMany : Nat) : Int) := my_ne c111 (nI_toInt (by omega)) (nI_toInt (by omega))
                  refine lv_iconst (v := 0) hx hb dX9_readsRow_147 (by decide +kernel) ?_
                  exact my_retZ hx hb hr hlocks (by decide +kernel) hK hS (wl_k_X9_readsRow cI cJ cK m0 a_row a_tape a_number a_read a_readBits a_stands a_parted a_bitsWere a_stood a_chosen a_bestChosen a_often a_sorted a_risen a_risenWays m_thrown (nI m_told) (nI m_taped) (nI m0_at_2) (nI m_to) (nI m_many) (nI m_readMany) m_fewest (nI m_size) mt a_readBits_2) hP hD (Or.inr (⟨m0_at_2, m_readMany, a_readBits_2, rfl, rfl, (by first | assumption | omega | trivial | decide +kernel), (by first | assumption | omega | trivial | decide +kernel), hR_a_readBits_2, (by first | assumption | omega | trivial | decide +kernel), (by omega), (fun h9 => by omega), (fun h9 => by omega), (by first | (intro h9; exfalso; omega) | (intro h9; subst hra; first | exact ⟨by omega, by assumption, by omega⟩ | (obtain rfl : k = m_readMany := (by omega); exact ⟨by omega, by assumption, by omega⟩)) | omega), (by first | assumption | omega | trivial | decide +kernel)⟩)) dX9_readsRow_148
                ·
                  have d111 : ((k : Nat) : Int) = ((m_readMany : Nat) : Int) := my_eq c111 (nI_toInt (by omega)) (nI_toInt (by omega))
                  refine lv_iload_n hx hb dX9_readsRow_114 rfl (lv_at hl 2 rfl) ?_
                  refine lv_bipush (v := 7) hx hb dX9_readsRow_115 (by decide +kernel) ?_
                  refine lv_icmp_ge (tgt := 132) hx hb dX9_readsRow_117 (by decide) (fun c117 => ?_) (fun c117 => ?_)
                  ·
                    have d117 : ((j : Nat) : Int) ≥ (7 : Int) := my_ge c117 (nI_toInt (by omega)) (by decide +kernel)
                    refine lv_aload_n hx hb dX9_readsRow_132 rfl (lv_at hl 1 rfl) ?_
                    refine va_get (ci := 9) (v := .int (nI m0_at_2)) (C := RX9) (T := TX9) (N := 24) hx hb hts hi9 hown hK hP 0 rfl rfl 5 (by decide) fl28 (fun _ h9 => h9) rfl dX9_readsRow_133 ?_
                    refine lv_aload_n hx hb dX9_readsRow_136 rfl (lv_at hl 1 rfl) ?_
                    refine va_get (ci := 9) (v := .int (nI m_to)) (C := RX9) (T := TX9) (N := 24) hx hb hts hi9 hown hK hP 0 rfl rfl 6 (by decide) fl25 (fun _ h9 => h9) rfl dX9_readsRow_137 ?_
                    refine lv_icmp_ne (tgt := 147) hx hb dX9_readsRow_140 (by decide) (fun c140 => ?_) (fun c140 => ?_)
                    ·
                      have d140 : ((m0_at_2 : Nat) : Int) ≠ ((m_to : Nat) : Int) := my_ne c140 (nI_toInt (by omega)) (nI_toInt (by omega))
                      refine lv_iconst (v := 0) hx hb dX9_readsRow_147 (by decide +kernel) ?_
                      exact my_retZ hx hb hr hlocks (by decide +kernel) hK hS (wl_k_X9_readsRow cI cJ cK m0 a_row a_tape a_number a_read a_readBits a_stands a_parted a_bitsWere a_stood a_chosen a_bestChosen a_often a_sorted a_risen a_risenWays m_thrown (nI m_told) (nI m_taped) (nI m0_at_2) (nI m_to) (nI m_many) (nI m_readMany) m_fewest (nI m_size) mt a_readBits_2) hP hD (Or.inr (⟨m0_at_2, m_readMany, a_readBits_2, rfl, rfl, (by first | assumption | omega | trivial | decide +kernel), (by first | assumption | omega | trivial | decide +kernel), hR_a_readBits_2, (by first | assumption | omega | trivial | decide +kernel), (by omega), (fun h9 => by omega), (fun h9 => by omega), (by first | (intro h9; exfalso; omega) | (intro h9; subst hra; first | exact ⟨by omega, by assumption, by omega⟩ | (obtain rfl : k = m_readMany := (by omega); exact ⟨by omega, by assumption, by omega⟩)) | omega), (by first | assumption | omega | trivial | decide +kernel)⟩)) dX9_readsRow_148
                    ·
                      have d140 : ((m0_at_2 : Nat) : Int) = ((m_to : Nat) : Int) := my_eq c140 (nI_toInt (by omega)) (nI_toInt (by omega))
                      refine lv_iconst (v := 1) hx hb dX9_readsRow_143 (by decide +kernel) ?_
                      refine lv_goto (tgt := 148) hx hb dX9_readsRow_144 (by decide) ?_
                      exact my_retZ hx hb hr hlocks (by decide +kernel) hK hS (wl_k_X9_readsRow cI cJ cK m0 a_row a_tape a_number a_read a_readBits a_stands a_parted a_bitsWere a_stood a_chosen a_bestChosen a_often a_sorted a_risen a_risenWays m_thrown (nI m_told) (nI m_taped) (nI m0_at_2) (nI m_to) (nI m_many) (nI m_readMany) m_fewest (nI m_size) mt a_readBits_2) hP hD (Or.inl ⟨m0_at_2, m_readMany, a_readBits_2, rfl, rfl, (by first | assumption | omega | trivial | decide +kernel), (by first | assumption | omega | trivial | decide +kernel), hR_a_readBits_2, (by first | assumption | omega | trivial | decide +kernel), (by omega), (fun h9 => by omega), (by first | (intro h9; exfalso; omega) | (intro h9; subst hra; first | exact ⟨by omega, by assumption, by omega⟩ | (obtain rfl : k = m_readMany := (by omega); exact ⟨by omega, by assumption, by omega⟩)) | omega), (fun h9 => by omega), (by first | assumption | omega | trivial | decide +kernel), (fun i hi => hb1 i (by omega)), hb2⟩) dX9_readsRow_148
                  ·
                    have d117 : ((j : Nat) : Int) < (7 : Int) := my_nge c117 (nI_toInt (by omega)) (by decide +kernel)
                    refine lv_aload_n hx hb dX9_readsRow_120 rfl (lv_at hl 1 rfl) ?_
                    refine lv_bipush (v := 47) hx hb dX9_readsRow_121 (by decide +kernel) ?_
                    refine my_goIS (wc := (wl_k_X9_takes cI cJ cK m0 a_row a_tape a_number a_read a_readBits a_stands a_parted a_bitsWere a_stood a_chosen a_bestChosen a_often a_sorted a_risen a_risenWays m_thrown (nI m_told) (nI m_taped) (nI m0_at_2) (nI m_to) (nI m_many) (nI m_readMany) m_fewest (nI m_size) mt)) hP hD hS hA [0, 1] rfl [some 0, some 1] (by decide +kernel) (my_cV (As := [.int 47]) (rest := []) (ci := 9) (wc := (wl_k_X9_takes cI cJ cK m0 a_row a_tape a_number a_read a_readBits a_stands a_parted a_bitsWere a_stood a_chosen a_bestChosen a_often a_sorted a_risen a_risenWays m_thrown (nI m_told) (nI m_taped) (nI m0_at_2) (nI m_to) (nI m_many) (nI m_readMany) m_fewest (nI m_size) mt)) ⟨hx, hb, hml, hown, hts⟩ (cwV 1 hts gX9_readsRow_X9_takes rfl rfl rfl (by decide +kernel) ⟨Nat.le_of_ble_eq_true rfl, Nat.le_of_ble_eq_true rfl⟩) hN hK hP hD [0, 1] rfl (by decide) rfl 0 rfl rfl rfl rfl hl.1 rfl (Nat.le_of_ble_eq_true rfl) dX9_readsRow_123 ⟨Nat.le_of_ble_eq_true rfl, Nat.le_of_ble_eq_true rfl⟩  ((k_X9_takes l D cI cJ cK m0 a_row a_tape a_number a_read a_readBits a_stands a_parted a_bitsWere a_stood a_chosen a_bestChosen a_often a_sorted a_risen a_risenWays m_thrown m_told m_taped m0_at_2 m_to m_many m_readMany m_fewest m_size mt (47 : Int32) (47 : Int) (by decide +kernel) (by first | assumption | omega | decide +kernel) (by first | assumption | omega | decide +kernel) (by first | assumption | omega | decide +kernel) (by first | assumption | omega | decide +kernel) (by first | assumption | omega | decide +kernel) (by first | assumption | omega | decide +kernel) (by first | assumption | omega | decide +kernel) hR_mt) _)) (fun r u H locs hp hPD hS => ?_)
                    rcases hp with ⟨rfl, rfl, hc_8, he_9⟩ | ⟨rfl, rfl, ho_10⟩
                    ·
                      obtain ⟨hP, hD⟩ := hPD rfl
                      have hP : va_P D vwCl (wl_k_X9_readsRow cI cJ cK m0 a_row a_tape a_number a_read a_readBits a_stands a_parted a_bitsWere a_stood a_chosen a_bestChosen a_often a_sorted a_risen a_risenWays m_thrown (nI m_told) (nI m_taped) (nI (m0_at_2 + 1)) (nI m_to) (nI m_many) (nI m_readMany) m_fewest (nI m_size) mt a_readBits_2) H := hP
                      have hD : va_D A (wl_k_X9_readsRow cI cJ cK m0 a_row a_tape a_number a_read a_readBits a_stands a_parted a_bitsWere a_stood a_chosen a_bestChosen a_often a_sorted a_risen a_risenWays m_thrown (nI m_told) (nI m_taped) (nI (m0_at_2 + 1)) (nI m_to) (nI m_many) (nI m_readMany) m_fewest (nI m_size) mt a_readBits_2) := hD
                      refine lv_if_eq (tgt := 147) hx hb dX9_readsRow_126 (by decide) (fun c126 => ?_) (fun c126 => ?_)
                      ·
                        exact absurd c126 (by decide +kernel)
                      ·
                        refine lv_goto (tgt := 143) hx hb dX9_readsRow_129 (by decide) ?_
                        refine lv_iconst (v := 1) hx hb dX9_readsRow_143 (by decide +kernel) ?_
                        refine lv_goto (tgt := 148) hx hb dX9_readsRow_144 (by decide) ?_
                        exact my_retZ hx hb hr hlocks (by decide +kernel) hK hS (wl_k_X9_readsRow cI cJ cK m0 a_row a_tape a_number a_read a_readBits a_stands a_parted a_bitsWere a_stood a_chosen a_bestChosen a_often a_sorted a_risen a_risenWays m_thrown (nI m_told) (nI m_taped) (nI (m0_at_2 + 1)) (nI m_to) (nI m_many) (nI m_readMany) m_fewest (nI m_size) mt a_readBits_2) hP hD (Or.inl ⟨(m0_at_2 + 1), m_readMany, a_readBits_2, rfl, rfl, (by first | assumption | omega | trivial | decide +kernel), (by first | assumption | omega | trivial | decide +kernel), hR_a_readBits_2, (by first | assumption | omega | trivial | decide +kernel), (by omega), (fun h9 => by omega), (by first | (intro h9; exfalso; omega) | (intro h9; subst hra; first | exact ⟨by omega, by assumption, by omega⟩ | (obtain rfl : k = m_readMany := (by omega); exact ⟨by omega, by assumption, by omega⟩)) | omega), (fun h9 => by omega), (by first | assumption | omega | trivial | decide +kernel), (fun i hi => hb1 i (by omega)), hb2⟩) dX9_readsRow_148
                    ·
                      obtain ⟨hP, hD⟩ := hPD rfl
                      have hP : va_P D vwCl (wl_k_X9_readsRow cI cJ cK m0 a_row a_tape a_number a_read a_readBits a_stands a_parted a_bitsWere a_stood a_chosen a_bestChosen a_often a_sorted a_risen a_risenWays m_thrown (nI m_told) (nI m_taped) (nI m0_at_2) (nI m_to) (nI m_many) (nI m_readMany) m_fewest (nI m_size) mt a_readBits_2) H := hP
                      have hD : va_D A (wl_k_X9_readsRow cI cJ cK m0 a_row a_tape a_number a_read a_readBits a_stands a_parted a_bitsWere a_stood a_chosen a_bestChosen a_often a_sorted a_risen a_risenWays m_thrown (nI m_told) (nI m_taped) (nI m0_at_2) (nI m_to) (nI m_many) (nI m_readMany) m_fewest (nI m_size) mt a_readBits_2) := hD
                      refine lv_if_eq (tgt := 147) hx hb dX9_readsRow_126 (by decide) (fun c126 => ?_) (fun c126 => ?_)
                      ·
                        refine lv_iconst (v := 0) hx hb dX9_readsRow_147 (by decide +kernel) ?_
                        exact my_retZ hx hb hr hlocks (by decide +kernel) hK hS (wl_k_X9_readsRow cI cJ cK m0 a_row a_tape a_number a_read a_readBits a_stands a_parted a_bitsWere a_stood a_chosen a_bestChosen a_often a_sorted a_risen a_risenWays m_thrown (nI m_told) (nI m_taped) (nI m0_at_2) (nI m_to) (nI m_many) (nI m_readMany) m_fewest (nI m_size) mt a_readBits_2) hP hD (Or.inr (⟨m0_at_2, m_readMany, a_readBits_2, rfl, rfl, (by first | assumption | omega | trivial | decide +kernel), (by first | assumption | omega | trivial | decide +kernel), hR_a_readBits_2, (by first | assumption | omega | trivial | decide +kernel), (by omega), (fun h9 => by omega), (fun h9 => by omega), (by first | (intro h9; exfalso; omega) | (intro h9; subst hra; first | exact ⟨by omega, by assumption, by omega⟩ | (obtain rfl : k = m_readMany := (by omega); exact ⟨by omega, by assumption, by omega⟩)) | omega), (by first | assumption | omega | trivial | decide +kernel)⟩)) dX9_readsRow_148
                      ·
                        exact absurd c126 (by decide +kernel)
              ·
                have d98 : ((j : Nat) : Int) = (0 : Int) := my_eq c98 (nI_toInt (by omega)) (by decide +kernel)
                refine lv_aload_n hx hb dX9_readsRow_101 rfl (lv_at hl 1 rfl) ?_
                refine lv_iload_n hx hb dX9_readsRow_102 rfl (lv_at hl 0 rfl) ?_
                refine va_put (ci := 9) (v := .int (nI k)) (ty := (.int)) (C := RX9) (T := TX9) (N := 24) hx hb hts hi9 tyX9 tyX9_ok nmX9 hown hK hP hD hS 0 rfl rfl 10 (by decide) fl93 (fun _ h9 => h9) rfl (by decide +kernel) rfl rfl (Nat.le_of_ble_eq_true rfl) dX9_readsRow_103 (fun H locs hP hD hS => ?_)
                have hP : va_P D vwCl (wl_k_X9_readsRow cI cJ cK m0 a_row a_tape a_number a_read a_readBits a_stands a_parted a_bitsWere a_stood a_chosen a_bestChosen a_often a_sorted a_risen a_risenWays m_thrown (nI m_told) (nI m_taped) (nI m0_at_2) (nI m_to) (nI m_many) (nI k) m_fewest (nI m_size) mt a_readBits_2) H := hP
                have hD : va_D A (wl_k_X9_readsRow cI cJ cK m0 a_row a_tape a_number a_read a_readBits a_stands a_parted a_bitsWere a_stood a_chosen a_bestChosen a_often a_sorted a_risen a_risenWays m_thrown (nI m_told) (nI m_taped) (nI m0_at_2) (nI m_to) (nI m_many) (nI k) m_fewest (nI m_size) mt a_readBits_2) := hD
                refine lv_iload_n hx hb dX9_readsRow_106 rfl (lv_at hl 0 rfl) ?_
                refine lv_aload_n hx hb dX9_readsRow_107 rfl (lv_at hl 1 rfl) ?_
                refine va_get (ci := 9) (v := .int (nI k)) (C := RX9) (T := TX9) (N := 24) hx hb hts hi9 hown hK hP 0 rfl rfl 10 (by decide) fl93 (fun _ h9 => h9) rfl dX9_readsRow_108 ?_
                refine lv_icmp_ne (tgt := 147) hx hb dX9_readsRow_111 (by decide) (fun c111 => ?_) (fun c111 => ?_)
                ·
                  have d111 : ((k : Nat) : Int) ≠ ((k : Nat) : Int) := my_ne c111 (nI_toInt (by omega)) (nI_toInt (by omega))
                  refine lv_iconst (v := 0) hx hb dX9_readsRow_147 (by decide +kernel) ?_
                  exact my_retZ hx hb hr hlocks (by decide +kernel) hK hS (wl_k_X9_readsRow cI cJ cK m0 a_row a_tape a_number a_read a_readBits a_stands a_parted a_bitsWere a_stood a_chosen a_bestChosen a_often a_sorted a_risen a_risenWays m_thrown (nI m_told) (nI m_taped) (nI m0_at_2) (nI m_to) (nI m_many) (nI k) m_fewest (nI m_size) mt a_readBits_2) hP hD (Or.inr (⟨m0_at_2, k, a_readBits_2, rfl, rfl, (by first | assumption | omega | trivial | decide +kernel), (by first | assumption | omega | trivial | decide +kernel), hR_a_readBits_2, (by first | assumption | omega | trivial | decide +kernel), (by omega), (fun h9 => by omega), (fun h9 => by omega), (by first | (intro h9; exfalso; omega) | (intro h9; subst hra; first | exact ⟨by omega, by assumption, by omega⟩ | (obtain rfl : k = m_readMany := (by omega); exact ⟨by omega, by assumption, by omega⟩)) | omega), (by first | assumption | omega | trivial | decide +kernel)⟩)) dX9_readsRow_148
                ·
                  have d111 : ((k : Nat) : Int) = ((k : Nat) : Int) := my_eq c111 (nI_toInt (by omega)) (nI_toInt (by omega))
                  refine lv_iload_n hx hb dX9_readsRow_114 rfl (lv_at hl 2 rfl) ?_
                  refine lv_bipush (v := 7) hx hb dX9_readsRow_115 (by decide +kernel) ?_
                  refine lv_icmp_ge (tgt := 132) hx hb dX9_readsRow_117 (by decide) (fun c117 => ?_) (fun c117 => ?_)
                  ·
                    have d117 : ((j : Nat) : Int) ≥ (7 : Int) := my_ge c117 (nI_toInt (by omega)) (by decide +kernel)
                    refine lv_aload_n hx hb dX9_readsRow_132 rfl (lv_at hl 1 rfl) ?_
                    refine va_get (ci := 9) (v := .int (nI m0_at_2)) (C := RX9) (T := TX9) (N := 24) hx hb hts hi9 hown hK hP 0 rfl rfl 5 (by decide) fl28 (fun _ h9 => h9) rfl dX9_readsRow_133 ?_
                    refine lv_aload_n hx hb dX9_readsRow_136 rfl (lv_at hl 1 rfl) ?_
                    refine va_get (ci := 9) (v := .int (nI m_to)) (C := RX9) (T := TX9) (N := 24) hx hb hts hi9 hown hK hP 0 rfl rfl 6 (by decide) fl25 (fun _ h9 => h9) rfl dX9_readsRow_137 ?_
                    refine lv_icmp_ne (tgt := 147) hx hb dX9_readsRow_140 (by decide) (fun c140 => ?_) (fun c140 => ?_)
                    ·
                      have d140 : ((m0_at_2 : Nat) : Int) ≠ ((m_to : Nat) : Int) := my_ne c140 (nI_toInt (by omega)) (nI_toInt (by omega))
                      refine lv_iconst (v := 0) hx hb dX9_readsRow_147 (by decide +kernel) ?_
                      exact my_retZ hx hb hr hlocks (by decide +kernel) hK hS (wl_k_X9_readsRow cI cJ cK m0 a_row a_tape a_number a_read a_readBits a_stands a_parted a_bitsWere a_stood a_chosen a_bestChosen a_often a_sorted a_risen a_risenWays m_thrown (nI m_told) (nI m_taped) (nI m0_at_2) (nI m_to) (nI m_many) (nI k) m_fewest (nI m_size) mt a_readBits_2) hP hD (Or.inr (⟨m0_at_2, k, a_readBits_2, rfl, rfl, (by first | assumption | omega | trivial | decide +kernel), (by first | assumption | omega | trivial | decide +kernel), hR_a_readBits_2, (by first | assumption | omega | trivial | decide +kernel), (by omega), (fun h9 => by omega), (fun h9 => by omega), (by first | (intro h9; exfalso; omega) | (intro h9; subst hra; first | exact ⟨by omega, by assumption, by omega⟩ | (obtain rfl : k = m_readMany := (by omega); exact ⟨by omega, by assumption, by omega⟩)) | omega), (by first | assumption | omega | trivial | decide +kernel)⟩)) dX9_readsRow_148
                    ·
                      have d140 : ((m0_at_2 : Nat) : Int) = ((m_to : Nat) : Int) := my_eq c140 (nI_toInt (by omega)) (nI_toInt (by omega))
                      refine lv_iconst (v := 1) hx hb dX9_readsRow_143 (by decide +kernel) ?_
                      refine lv_goto (tgt := 148) hx hb dX9_readsRow_144 (by decide) ?_
                      exact my_retZ hx hb hr hlocks (by decide +kernel) hK hS (wl_k_X9_readsRow cI cJ cK m0 a_row a_tape a_number a_read a_readBits a_stands a_parted a_bitsWere a_stood a_chosen a_bestChosen a_often a_sorted a_risen a_risenWays m_thrown (nI m_told) (nI m_taped) (nI m0_at_2) (nI m_to) (nI m_many) (nI k) m_fewest (nI m_size) mt a_readBits_2) hP hD (Or.inl ⟨m0_at_2, k, a_readBits_2, rfl, rfl, (by first | assumption | omega | trivial | decide +kernel), (by first | assumption | omega | trivial | decide +kernel), hR_a_readBits_2, (by first | assumption | omega | trivial | decide +kernel), (by omega), (fun h9 => by omega), (by first | (intro h9; exfalso; omega) | (intro h9; subst hra; first | exact ⟨by omega, by assumption, by omega⟩ | (obtain rfl : k = m_readMany := (by omega); exact ⟨by omega, by assumption, by omega⟩)) | omega), (fun h9 => by omega), (by first | assumption | omega | trivial | decide +kernel), (fun i hi => hb1 i (by omega)), hb2⟩) dX9_readsRow_148
                  ·
                    have d117 : ((j : Nat) : Int) < (7 : Int) := my_nge c117 (nI_toInt (by omega)) (by decide +kernel)
                    refine lv_aload_n hx hb dX9_readsRow_120 rfl (lv_at hl 1 rfl) ?_
                    refine lv_bipush (v := 47) hx hb dX9_readsRow_121 (by decide +kernel) ?_
                    refine my_goIS (wc := (wl_k_X9_takes cI cJ cK m0 a_row a_tape a_number a_read a_readBits a_stands a_parted a_bitsWere a_stood a_chosen a_bestChosen a_often a_sorted a_risen a_risenWays m_thrown (nI m_told) (nI m_taped) (nI m0_at_2) (nI m_to) (nI m_many) (nI k) m_fewest (nI m_size) mt)) hP hD hS hA [0, 1] rfl [some 0, some 1] (by decide +kernel) (my_cV (As := [.int 47]) (rest := []) (ci := 9) (wc := (wl_k_X9_takes cI cJ cK m0 a_row a_tape a_number a_read a_readBits a_stands a_parted a_bitsWere a_stood a_chosen a_bestChosen a_often a_sorted a_risen a_risenWays m_thrown (nI m_told) (nI m_taped) (nI m0_at_2) (nI m_to) (nI m_many) (nI k) m_fewest (nI m_size) mt)) ⟨hx, hb, hml, hown, hts⟩ (cwV 1 hts gX9_readsRow_X9_takes rfl rfl rfl (by decide +kernel) ⟨Nat.le_of_ble_eq_true rfl, Nat.le_of_ble_eq_true rfl⟩) hN hK hP hD [0, 1] rfl (by decide) rfl 0 rfl rfl rfl rfl hl.1 rfl (Nat.le_of_ble_eq_true rfl) dX9_readsRow_123 ⟨Nat.le_of_ble_eq_true rfl, Nat.le_of_ble_eq_true rfl⟩  ((k_X9_takes l D cI cJ cK m0 a_row a_tape a_number a_read a_readBits a_stands a_parted a_bitsWere a_stood a_chosen a_bestChosen a_often a_sorted a_risen a_risenWays m_thrown m_told m_taped m0_at_2 m_to m_many k m_fewest m_size mt (47 : Int32) (47 : Int) (by decide +kernel) (by first | assumption | omega | decide +kernel) (by first | assumption | omega | decide +kernel) (by first | assumption | omega | decide +kernel) (by first | assumption | omega | decide +kernel) (by first | assumption | omega | decide +kernel) (by first | assumption | omega | decide +kernel) (by first | assumption | omega | decide +kernel) hR_mt) _)) (fun r u H locs hp hPD hS => ?_)
                    rcases hp with ⟨rfl, rfl, hc_11, he_12⟩ | ⟨rfl, rfl, ho_13⟩
                    ·
                      obtain ⟨hP, hD⟩ := hPD rfl
                      have hP : va_P D vwCl (wl_k_X9_readsRow cI cJ cK m0 a_row a_tape a_number a_read a_readBits a_stands a_parted a_bitsWere a_stood a_chosen a_bestChosen a_often a_sorted a_risen a_risenWays m_thrown (nI m_told) (nI m_taped) (nI (m0_at_2 + 1)) (nI m_to) (nI m_many) (nI k) m_fewest (nI m_size) mt a_readBits_2) H := hP
                      have hD : va_D A (wl_k_X9_readsRow cI cJ cK m0 a_row a_tape a_number a_read a_readBits a_stands a_parted a_bitsWere a_stood a_chosen a_bestChosen a_often a_sorted a_risen a_risenWays m_thrown (nI m_told) (nI m_taped) (nI (m0_at_2 + 1)) (nI m_to) (nI m_many) (nI k) m_fewest (nI m_size) mt a_readBits_2) := hD
                      refine lv_if_eq (tgt := 147) hx hb dX9_readsRow_126 (by decide) (fun c126 => ?_) (fun c126 => ?_)
                      ·
                        exact absurd c126 (by decide +kernel)
                      ·
                        refine lv_goto (tgt := 143) hx hb dX9_readsRow_129 (by decide) ?_
                        refine lv_iconst (v := 1) hx hb dX9_readsRow_143 (by decide +kernel) ?_
                        refine lv_goto (tgt := 148) hx hb dX9_readsRow_144 (by decide) ?_
                        exact my_retZ hx hb hr hlocks (by decide +kernel) hK hS (wl_k_X9_readsRow cI cJ cK m0 a_row a_tape a_number a_read a_readBits a_stands a_parted a_bitsWere a_stood a_chosen a_bestChosen a_often a_sorted a_risen a_risenWays m_thrown (nI m_told) (nI m_taped) (nI (m0_at_2 + 1)) (nI m_to) (nI m_many) (nI k) m_fewest (nI m_size) mt a_readBits_2) hP hD (Or.inl ⟨(m0_at_2 + 1), k, a_readBits_2, rfl, rfl, (by first | assumption | omega | trivial | decide +kernel), (by first | assumption | omega | trivial | decide +kernel), hR_a_readBits_2, (by first | assumption | omega | trivial | decide +kernel), (by omega), (fun h9 => by omega), (by first | (intro h9; exfalso; omega) | (intro h9; subst hra; first | exact ⟨by omega, by assumption, by omega⟩ | (obtain rfl : k = m_readMany := (by omega); exact ⟨by omega, by assumption, by omega⟩)) | omega), (fun h9 => by omega), (by first | assumption | omega | trivial | decide +kernel), (fun i hi => hb1 i (by omega)), hb2⟩) dX9_readsRow_148
                    ·
                      obtain ⟨hP, hD⟩ := hPD rfl
                      have hP : va_P D vwCl (wl_k_X9_readsRow cI cJ cK m0 a_row a_tape a_number a_read a_readBits a_stands a_parted a_bitsWere a_stood a_chosen a_bestChosen a_often a_sorted a_risen a_risenWays m_thrown (nI m_told) (nI m_taped) (nI m0_at_2) (nI m_to) (nI m_many) (nI k) m_fewest (nI m_size) mt a_readBits_2) H := hP
                      have hD : va_D A (wl_k_X9_readsRow cI cJ cK m0 a_row a_tape a_number a_read a_readBits a_stands a_parted a_bitsWere a_stood a_chosen a_bestChosen a_often a_sorted a_risen a_risenWays m_thrown (nI m_told) (nI m_taped) (nI m0_at_2) (nI m_to) (nI m_many) (nI k) m_fewest (nI m_size) mt a_readBits_2) := hD
                      refine lv_if_eq (tgt := 147) hx hb dX9_readsRow_126 (by decide) (fun c126 => ?_) (fun c126 => ?_)
                      ·
                        refine lv_iconst (v := 0) hx hb dX9_readsRow_147 (by decide +kernel) ?_
                        exact my_retZ hx hb hr hlocks (by decide +kernel) hK hS (wl_k_X9_readsRow cI cJ cK m0 a_row a_tape a_number a_read a_readBits a_stands a_parted a_bitsWere a_stood a_chosen a_bestChosen a_often a_sorted a_risen a_risenWays m_thrown (nI m_told) (nI m_taped) (nI m0_at_2) (nI m_to) (nI m_many) (nI k) m_fewest (nI m_size) mt a_readBits_2) hP hD (Or.inr (⟨m0_at_2, k, a_readBits_2, rfl, rfl, (by first | assumption | omega | trivial | decide +kernel), (by first | assumption | omega | trivial | decide +kernel), hR_a_readBits_2, (by first | assumption | omega | trivial | decide +kernel), (by omega), (fun h9 => by omega), (fun h9 => by omega), (by first | (intro h9; exfalso; omega) | (intro h9; subst hra; first | exact ⟨by omega, by assumption, by omega⟩ | (obtain rfl : k = m_readMany := (by omega); exact ⟨by omega, by assumption, by omega⟩)) | omega), (by first | assumption | omega | trivial | decide +kernel)⟩)) dX9_readsRow_148
                      ·
                        exact absurd c126 (by decide +kernel)
            ·
              have d55 : ((k : Nat) : Int) < ((m_readMany : Nat) : Int) := my_nge c55 (nI_toInt (by omega)) (nI_toInt (by omega))
              refine lv_aload_n hx hb dX9_readsRow_58 rfl (lv_at hl 1 rfl) ?_
              refine va_get (ci := 9) (v := .ref a_readBits) (C := RX9) (T := TX9) (N := 24) hx hb hts hi9 hown hK hP 0 rfl rfl 11 (by decide) fl55 (fun _ h9 => h9) rfl dX9_readsRow_59 ?_
              refine lv_bipush (v := 11) hx hb dX9_readsRow_62 (by decide +kernel) ?_
              refine lv_iload_n hx hb dX9_readsRow_64 rfl (lv_at hl 2 rfl) ?_
              refine lv_imul hx hb dX9_readsRow_65 ?_
              refine my_eqi (y := nI (11 * j)) (my_mulN _ _) ?_
              refine lv_iload_n hx hb dX9_readsRow_66 rfl (lv_at hl 0 rfl) ?_
              refine lv_iadd hx hb dX9_readsRow_67 ?_
              refine my_eqi (y := nI (11 * j + k)) (nI_add _ _) ?_
              refine lv_aload_n hx hb dX9_readsRow_68 rfl (lv_at hl 1 rfl) ?_
              refine va_get (ci := 9) (v := .ref a_tape) (C := RX9) (T := TX9) (N := 24) hx hb hts hi9 hown hK hP 0 rfl rfl 3 (by decide) fl17 (fun _ h9 => h9) rfl dX9_readsRow_69 ?_
              refine lv_aload_n hx hb dX9_readsRow_72 rfl (lv_at hl 1 rfl) ?_
              refine va_get (ci := 9) (v := .int (nI m0_at_2)) (C := RX9) (T := TX9) (N := 24) hx hb hts hi9 hown hK hP 0 rfl rfl 5 (by decide) fl28 (fun _ h9 => h9) rfl dX9_readsRow_73 ?_
              refine va_iald hx hb hK hP 1 0 rfl rfl (vp_in_nI (by omega) (by omega)) dX9_readsRow_76 ?_
              refine my_eqi (y := mt m0_at_2) (congrArg mt (nI_clamp (by omega))) ?_
              have hb_14 := hR_mt m0_at_2
              refine lv_bipush (v := 48) hx hb dX9_readsRow_77 (by decide +kernel) ?_
              refine lv_isub hx hb dX9_readsRow_79 ?_
              refine lv_topi (fun z_15 ez_15 => ?_)
              try have tz_15 : z_15.toInt = (mt m0_at_2).toInt - (48 : Int) := by rw [ez_15]; exact my_subI rfl (by decide +kernel) (by omega) (by omega)
              refine va_iast hx hb hK hP hD hS 2 0 rfl rfl (vp_in_nI (by omega) (by omega)) dX9_readsRow_80 (fun H locs hP hD hS => ?_)
              obtain ⟨g_16, eg_16⟩ : ∃ g : Nat → Int32, g = upd a_readBits_2 (11 * j + k) z_15 := ⟨_, rfl⟩
              have eU : upd a_readBits_2 (nI (11 * j + k) : Int32).toNatClampNeg z_15 = g_16 := by rw [eg_16, show (nI (11 * j + k) : Int32).toNatClampNeg = 11 * j + k from nI_clamp (by omega)]
              rw [eU] at hP hD
              have hR_g_16 : RB 0 1 g_16 := by rw [eg_16]; exact hR_a_readBits_2.upd rfl (by omega) (by omega)
              have hP : va_P D vwCl (wl_k_X9_readsRow cI cJ cK m0 a_row a_tape a_number a_read a_readBits a_stands a_parted a_bitsWere a_stood a_chosen a_bestChosen a_often a_sorted a_risen a_risenWays m_thrown (nI m_told) (nI m_taped) (nI m0_at_2) (nI m_to) (nI m_many) (nI m_readMany) m_fewest (nI m_size) mt g_16) H := hP
              have hD : va_D A (wl_k_X9_readsRow cI cJ cK m0 a_row a_tape a_number a_read a_readBits a_stands a_parted a_bitsWere a_stood a_chosen a_bestChosen a_often a_sorted a_risen a_risenWays m_thrown (nI m_told) (nI m_taped) (nI m0_at_2) (nI m_to) (nI m_many) (nI m_readMany) m_fewest (nI m_size) mt g_16) := hD
              refine lv_aload_n hx hb dX9_readsRow_81 rfl (lv_at hl 1 rfl) ?_
              refine lv_dup hx hb dX9_readsRow_82 rfl ?_
              refine va_get (ci := 9) (v := .int (nI m0_at_2)) (C := RX9) (T := TX9) (N := 24) hx hb hts hi9 hown hK hP 0 rfl rfl 5 (by decide) fl28 (fun _ h9 => h9) rfl dX9_readsRow_83 ?_
              refine lv_iconst (v := 1) hx hb dX9_readsRow_86 (by decide +kernel) ?_
              refine lv_iadd hx hb dX9_readsRow_87 ?_
              refine my_eqi (y := nI (m0_at_2 + 1)) (my_addN m0_at_2 1) ?_
              refine va_put (ci := 9) (v := .int (nI (m0_at_2 + 1))) (ty := (.int)) (C := RX9) (T := TX9) (N := 24) hx hb hts hi9 tyX9 tyX9_ok nmX9 hown hK hP hD hS 0 rfl rfl 5 (by decide) fl28 (fun _ h9 => h9) rfl (by decide +kernel) rfl rfl (Nat.le_of_ble_eq_true rfl) dX9_readsRow_88 (fun H locs hP hD hS => ?_)
              have hP : va_P D vwCl (wl_k_X9_readsRow cI cJ cK m0 a_row a_tape a_number a_read a_readBits a_stands a_parted a_bitsWere a_stood a_chosen a_bestChosen a_often a_sorted a_risen a_risenWays m_thrown (nI m_told) (nI m_taped) (nI (m0_at_2 + 1)) (nI m_to) (nI m_many) (nI m_readMany) m_fewest (nI m_size) mt g_16) H := hP
              have hD : va_D A (wl_k_X9_readsRow cI cJ cK m0 a_row a_tape a_number a_read a_readBits a_stands a_parted a_bitsWere a_stood a_chosen a_bestChosen a_often a_sorted a_risen a_risenWays m_thrown (nI m_told) (nI m_taped) (nI (m0_at_2 + 1)) (nI m_to) (nI m_many) (nI m_readMany) m_fewest (nI m_size) mt g_16) := hD
              refine lv_iinc (v := nI (k + 1)) (lv' := [(2, .int (nI (k + 1))), (0, .ref m0), (1, .int (nI j))]) hx hb dX9_readsRow_91 hl (k := 0) rfl (my_incN k 1 (by decide +kernel)) (by decide) rfl (fun ls hl => ?_)
              refine lv_goto (tgt := 2) hx hb dX9_readsRow_94 (by decide) ?_
              exact ih2  (k + 1) (m0_at_2 + 1) g_16 (by omega) (by first | assumption | omega | decide +kernel) (by first | assumption | omega | decide +kernel) (by first | assumption | omega | decide +kernel) (by first | assumption | omega | decide +kernel) (by have h9 := bl_yes (f := mt) (n := m_to) (m := (rmo j m_readMany)) (k := k) (a := m0_at_2) (by omega) (bitS_iff.mpr ⟨by omega, by omega, by omega⟩); omega) (rb_step (by assumption) (by subst hra; exact bit_val (by assumption) (by omega)) hb1) (ro_step (by assumption) (by omega) hb2) (by first | assumption | omega | decide +kernel) hR_g_16 _ _ ls hP hD hS (lv_sub hl [0, 1, 2] rfl)
          ·
            have d43 : ((j : Nat) : Int) = (0 : Int) := my_eq c43 (nI_toInt (by omega)) (by decide +kernel)
            refine lv_bipush (v := 11) hx hb dX9_readsRow_46 (by decide +kernel) ?_
            refine lv_goto (tgt := 55) hx hb dX9_readsRow_48 (by decide) ?_
            refine lv_icmp_ge (tgt := 97) hx hb dX9_readsRow_55 (by decide) (fun c55 => ?_) (fun c55 => ?_)
            ·
              have d55 : ((k : Nat) : Int) ≥ (11 : Int) := my_ge c55 (nI_toInt (by omega)) (by decide +kernel)
              have hex := bl_exit (f := mt) (n := m_to) (m := (rmo j m_readMany)) (k := k) (a := m0_at_2) (by first | (left; omega) | (right; exact bitS_no (by omega)))
              have hkb : k = blen mt m_to (rmo j m_readMany) m_at := by omega
              refine lv_iload_n hx hb dX9_readsRow_97 rfl (lv_at hl 2 rfl) ?_
              refine lv_if_ne (tgt := 106) hx hb dX9_readsRow_98 (by decide) (fun c98 => ?_) (fun c98 => ?_)
              ·
                have d98 : ((j : Nat) : Int) ≠ (0 : Int) := my_ne c98 (nI_toInt (by omega)) (by decide +kernel)
                refine lv_iload_n hx hb dX9_readsRow_106 rfl (lv_at hl 0 rfl) ?_
                refine lv_aload_n hx hb dX9_readsRow_107 rfl (lv_at hl 1 rfl) ?_
                refine va_get (ci := 9) (v := .int (nI m_readMany)) (C := RX9) (T := TX9) (N := 24) hx hb hts hi9 hown hK hP 0 rfl rfl 10 (by decide) fl93 (fun _ h9 => h9) rfl dX9_readsRow_108 ?_
                refine lv_icmp_ne (tgt := 147) hx hb dX9_readsRow_111 (by decide) (fun c111 => ?_) (fun c111 => ?_)
                ·
                  have d111 : ((k : Nat) : Int) ≠ ((m_readMany : Nat) : Int) := my_ne c111 (nI_toInt (by omega)) (nI_toInt (by omega))
                  refine lv_iconst (v := 0) hx hb dX9_readsRow_147 (by decide +kernel) ?_
                  exact my_retZ hx hb hr hlocks (by decide +kernel) hK hS (wl_k_X9_readsRow cI cJ cK m0 a_row a_tape a_number a_read a_readBits a_stands a_parted a_bitsWere a_stood a_chosen a_bestChosen a_often a_sorted a_risen a_risenWays m_thrown (nI m_told) (nI m_taped) (nI m0_at_2) (nI m_to) (nI m_many) (nI m_readMany) m_fewest (nI m_size) mt a_readBits_2) hP hD (Or.inr (⟨m0_at_2, m_readMany, a_readBits_2, rfl, rfl, (by first | assumption | omega | trivial | decide +kernel), (by first | assumption | omega | trivial | decide +kernel), hR_a_readBits_2, (by first | assumption | omega | trivial | decide +kernel), (by omega), (fun h9 => by omega), (fun h9 => by omega), (by first | (intro h9; exfalso; omega) | (intro h9; subst hra; first | exact ⟨by omega, by assumption, by omega⟩ | (obtain rfl : k = m_readMany := (by omega); exact ⟨by omega, by assumption, by omega⟩)) | omega), (by first | assumption | omega | trivial | decide +kernel)⟩)) dX9_readsRow_148
                ·
                  have d111 : ((k : Nat) : Int) = ((m_readMany : Nat) : Int) := my_eq c111 (nI_toInt (by omega)) (nI_toInt (by omega))
                  refine lv_iload_n hx hb dX9_readsRow_114 rfl (lv_at hl 2 rfl) ?_
                  refine lv_bipush (v := 7) hx hb dX9_readsRow_115 (by decide +kernel) ?_
                  refine lv_icmp_ge (tgt := 132) hx hb dX9_readsRow_117 (by decide) (fun c117 => ?_) (fun c117 => ?_)
                  ·
                    have d117 : ((j : Nat) : Int) ≥ (7 : Int) := my_ge c117 (nI_toInt (by omega)) (by decide +kernel)
                    refine lv_aload_n hx hb dX9_readsRow_132 rfl (lv_at hl 1 rfl) ?_
                    refine va_get (ci := 9) (v := .int (nI m0_at_2)) (C := RX9) (T := TX9) (N := 24) hx hb hts hi9 hown hK hP 0 rfl rfl 5 (by decide) fl28 (fun _ h9 => h9) rfl dX9_readsRow_133 ?_
                    refine lv_aload_n hx hb dX9_readsRow_136 rfl (lv_at hl 1 rfl) ?_
                    refine va_get (ci := 9) (v := .int (nI m_to)) (C := RX9) (T := TX9) (N := 24) hx hb hts hi9 hown hK hP 0 rfl rfl 6 (by decide) fl25 (fun _ h9 => h9) rfl dX9_readsRow_137 ?_
                    refine lv_icmp_ne (tgt := 147) hx hb dX9_readsRow_140 (by decide) (fun c140 => ?_) (fun c140 => ?_)
                    ·
                      have d140 : ((m0_at_2 : Nat) : Int) ≠ ((m_to : Nat) : Int) := my_ne c140 (nI_toInt (by omega)) (nI_toInt (by omega))
                      refine lv_iconst (v := 0) hx hb dX9_readsRow_147 (by decide +kernel) ?_
                      exact my_retZ hx hb hr hlocks (by decide +kernel) hK hS (wl_k_X9_readsRow cI cJ cK m0 a_row a_tape a_number a_read a_readBits a_stands a_parted a_bitsWere a_stood a_chosen a_bestChosen a_often a_sorted a_risen a_risenWays m_thrown (nI m_told) (nI m_taped) (nI m0_at_2) (nI m_to) (nI m_many) (nI m_readMany) m_fewest (nI m_size) mt a_readBits_2) hP hD (Or.inr (⟨m0_at_2, m_readMany, a_readBits_2, rfl, rfl, (by first | assumption | omega | trivial | decide +kernel), (by first | assumption | omega | trivial | decide +kernel), hR_a_readBits_2, (by first | assumption | omega | trivial | decide +kernel), (by omega), (fun h9 => by omega), (fun h9 => by omega), (by first | (intro h9; exfalso; omega) | (intro h9; subst hra; first | exact ⟨by omega, by assumption, by omega⟩ | (obtain rfl : k = m_readMany := (by omega); exact ⟨by omega, by assumption, by omega⟩)) | omega), (by first | assumption | omega | trivial | decide +kernel)⟩)) dX9_readsRow_148
                    ·
                      have d140 : ((m0_at_2 : Nat) : Int) = ((m_to : Nat) : Int) := my_eq c140 (nI_toInt (by omega)) (nI_toInt (by omega))
                      refine lv_iconst (v := 1) hx hb dX9_readsRow_143 (by decide +kernel) ?_
                      refine lv_goto (tgt := 148) hx hb dX9_readsRow_144 (by decide) ?_
                      exact my_retZ hx hb hr hlocks (by decide +kernel) hK hS (wl_k_X9_readsRow cI cJ cK m0 a_row a_tape a_number a_read a_readBits a_stands a_parted a_bitsWere a_stood a_chosen a_bestChosen a_often a_sorted a_risen a_risenWays m_thrown (nI m_told) (nI m_taped) (nI m0_at_2) (nI m_to) (nI m_many) (nI m_readMany) m_fewest (nI m_size) mt a_readBits_2) hP hD (Or.inl ⟨m0_at_2, m_readMany, a_readBits_2, rfl, rfl, (by first | assumption | omega | trivial | decide +kernel), (by first | assumption | omega | trivial | decide +kernel), hR_a_readBits_2, (by first | assumption | omega | trivial | decide +kernel), (by omega), (fun h9 => by omega), (by first | (intro h9; exfalso; omega) | (intro h9; subst hra; first | exact ⟨by omega, by assumption, by omega⟩ | (obtain rfl : k = m_readMany := (by omega); exact ⟨by omega, by assumption, by omega⟩)) | omega), (fun h9 => by omega), (by first | assumption | omega | trivial | decide +kernel), (fun i hi => hb1 i (by omega)), hb2⟩) dX9_readsRow_148
                  ·
                    have d117 : ((j : Nat) : Int) < (7 : Int) := my_nge c117 (nI_toInt (by omega)) (by decide +kernel)
                    refine lv_aload_n hx hb dX9_readsRow_120 rfl (lv_at hl 1 rfl) ?_
                    refine lv_bipush (v := 47) hx hb dX9_readsRow_121 (by decide +kernel) ?_
                    refine my_goIS (wc := (wl_k_X9_takes cI cJ cK m0 a_row a_tape a_number a_read a_readBits a_stands a_parted a_bitsWere a_stood a_chosen a_bestChosen a_often a_sorted a_risen a_risenWays m_thrown (nI m_told) (nI m_taped) (nI m0_at_2) (nI m_to) (nI m_many) (nI m_readMany) m_fewest (nI m_size) mt)) hP hD hS hA [0, 1] rfl [some 0, some 1] (by decide +kernel) (my_cV (As := [.int 47]) (rest := []) (ci := 9) (wc := (wl_k_X9_takes cI cJ cK m0 a_row a_tape a_number a_read a_readBits a_stands a_parted a_bitsWere a_stood a_chosen a_bestChosen a_often a_sorted a_risen a_risenWays m_thrown (nI m_told) (nI m_taped) (nI m0_at_2) (nI m_to) (nI m_many) (nI m_readMany) m_fewest (nI m_size) mt)) ⟨hx, hb, hml, hown, hts⟩ (cwV 1 hts gX9_readsRow_X9_takes rfl rfl rfl (by decide +kernel) ⟨Nat.le_of_ble_eq_true rfl, Nat.le_of_ble_eq_true rfl⟩) hN hK hP hD [0, 1] rfl (by decide) rfl 0 rfl rfl rfl rfl hl.1 rfl (Nat.le_of_ble_eq_true rfl) dX9_readsRow_123 ⟨Nat.le_of_ble_eq_true rfl, Nat.le_of_ble_eq_true rfl⟩  ((k_X9_takes l D cI cJ cK m0 a_row a_tape a_number a_read a_readBits a_stands a_parted a_bitsWere a_stood a_chosen a_bestChosen a_often a_sorted a_risen a_risenWays m_thrown m_told m_taped m0_at_2 m_to m_many m_readMany m_fewest m_size mt (47 : Int32) (47 : Int) (by decide +kernel) (by first | assumption | omega | decide +kernel) (by first | assumption | omega | decide +kernel) (by first | assumption | omega | decide +kernel) (by first | assumption | omega | decide +kernel) (by first | assumption | omega | decide +kernel) (by first | assumption | omega | decide +kernel) (by first | assumption | omega | decide +kernel) hR_mt) _)) (fun r u H locs hp hPD hS => ?_)
                    rcases hp with ⟨rfl, rfl, hc_17, he_18⟩ | ⟨rfl, rfl, ho_19⟩
                    ·
                      obtain ⟨hP, hD⟩ := hPD rfl
                      have hP : va_P D vwCl (wl_k_X9_readsRow cI cJ cK m0 a_row a_tape a_number a_read a_readBits a_stands a_parted a_bitsWere a_stood a_chosen a_bestChosen a_often a_sorted a_risen a_risenWays m_thrown (nI m_told) (nI m_taped) (nI (m0_at_2 + 1)) (nI m_to) (nI m_many) (nI m_readMany) m_fewest (nI m_size) mt a_readBits_2) H := hP
                      have hD : va_D A (wl_k_X9_readsRow cI cJ cK m0 a_row a_tape a_number a_read a_readBits a_stands a_parted a_bitsWere a_stood a_chosen a_bestChosen a_often a_sorted a_risen a_risenWays m_thrown (nI m_told) (nI m_taped) (nI (m0_at_2 + 1)) (nI m_to) (nI m_many) (nI m_readMany) m_fewest (nI m_size) mt a_readBits_2) := hD
                      refine lv_if_eq (tgt := 147) hx hb dX9_readsRow_126 (by decide) (fun c126 => ?_) (fun c126 => ?_)
                      ·
                        exact absurd c126 (by decide +kernel)
                      ·
                        refine lv_goto (tgt := 143) hx hb dX9_readsRow_129 (by decide) ?_
                        refine lv_iconst (v := 1) hx hb dX9_readsRow_143 (by decide +kernel) ?_
                        refine lv_goto (tgt := 148) hx hb dX9_readsRow_144 (by decide) ?_
                        exact my_retZ hx hb hr hlocks (by decide +kernel) hK hS (wl_k_X9_readsRow cI cJ cK m0 a_row a_tape a_number a_read a_readBits a_stands a_parted a_bitsWere a_stood a_chosen a_bestChosen a_often a_sorted a_risen a_risenWays m_thrown (nI m_told) (nI m_taped) (nI (m0_at_2 + 1)) (nI m_to) (nI m_many) (nI m_readMany) m_fewest (nI m_size) mt a_readBits_2) hP hD (Or.inl ⟨(m0_at_2 + 1), m_readMany, a_readBits_2, rfl, rfl, (by first | assumption | omega | trivial | decide +kernel), (by first | assumption | omega | trivial | decide +kernel), hR_a_readBits_2, (by first | assumption | omega | trivial | decide +kernel), (by omega), (fun h9 => by omega), (by first | (intro h9; exfalso; omega) | (intro h9; subst hra; first | exact ⟨by omega, by assumption, by omega⟩ | (obtain rfl : k = m_readMany := (by omega); exact ⟨by omega, by assumption, by omega⟩)) | omega), (fun h9 => by omega), (by first | assumption | omega | trivial | decide +kernel), (fun i hi => hb1 i (by omega)), hb2⟩) dX9_readsRow_148
                    ·
                      obtain ⟨hP, hD⟩ := hPD rfl
                      have hP : va_P D vwCl (wl_k_X9_readsRow cI cJ cK m0 a_row a_tape a_number a_read a_readBits a_stands a_parted a_bitsWere a_stood a_chosen a_bestChosen a_often a_sorted a_risen a_risenWays m_thrown (nI m_told) (nI m_taped) (nI m0_at_2) (nI m_to) (nI m_many) (nI m_readMany) m_fewest (nI m_size) mt a_readBits_2) H := hP
                      have hD : va_D A (wl_k_X9_readsRow cI cJ cK m0 a_row a_tape a_number a_read a_readBits a_stands a_parted a_bitsWere a_stood a_chosen a_bestChosen a_often a_sorted a_risen a_risenWays m_thrown (nI m_told) (nI m_taped) (nI m0_at_2) (nI m_to) (nI m_many) (nI m_readMany) m_fewest (nI m_size) mt a_readBits_2) := hD
                      refine lv_if_eq (tgt := 147) hx hb dX9_readsRow_126 (by decide) (fun c126 => ?_) (fun c126 => ?_)
                      ·
                        refine lv_iconst (v := 0) hx hb dX9_readsRow_147 (by decide +kernel) ?_
                        exact my_retZ hx hb hr hlocks (by decide +kernel) hK hS (wl_k_X9_readsRow cI cJ cK m0 a_row a_tape a_number a_read a_readBits a_stands a_parted a_bitsWere a_stood a_chosen a_bestChosen a_often a_sorted a_risen a_risenWays m_thrown (nI m_told) (nI m_taped) (nI m0_at_2) (nI m_to) (nI m_many) (nI m_readMany) m_fewest (nI m_size) mt a_readBits_2) hP hD (Or.inr (⟨m0_at_2, m_readMany, a_readBits_2, rfl, rfl, (by first | assumption | omega | trivial | decide +kernel), (by first | assumption | omega | trivial | decide +kernel), hR_a_readBits_2, (by first | assumption | omega | trivial | decide +kernel), (by omega), (fun h9 => by omega), (fun h9 => by omega), (by first | (intro h9; exfalso; omega) | (intro h9; subst hra; first | exact ⟨by omega, by assumption, by omega⟩ | (obtain rfl : k = m_readMany := (by omega); exact ⟨by omega, by assumption, by omega⟩)) | omega), (by first | assumption | omega | trivial | decide +kernel)⟩)) dX9_readsRow_148
                      ·
                        exact absurd c126 (by decide +kernel)
              ·
                have d98 : ((j : Nat) : Int) = (0 : Int) := my_eq c98 (nI_toInt (by omega)) (by decide +kernel)
                refine lv_aload_n hx hb dX9_readsRow_101 rfl (lv_at hl 1 rfl) ?_
                refine lv_iload_n hx hb dX9_readsRow_102 rfl (lv_at hl 0 rfl) ?_
                refine va_put (ci := 9) (v := .int (nI k)) (ty := (.int)) (C := RX9) (T := TX9) (N := 24) hx hb hts hi9 tyX9 tyX9_ok nmX9 hown hK hP hD hS 0 rfl rfl 10 (by decide) fl93 (fun _ h9 => h9) rfl (by decide +kernel) rfl rfl (Nat.le_of_ble_eq_true rfl) dX9_readsRow_103 (fun H locs hP hD hS => ?_)
                have hP : va_P D vwCl (wl_k_X9_readsRow cI cJ cK m0 a_row a_tape a_number a_read a_readBits a_stands a_parted a_bitsWere a_stood a_chosen a_bestChosen a_often a_sorted a_risen a_risenWays m_thrown (nI m_told) (nI m_taped) (nI m0_at_2) (nI m_to) (nI m_many) (nI k) m_fewest (nI m_size) mt a_readBits_2) H := hP
                have hD : va_D A (wl_k_X9_readsRow cI cJ cK m0 a_row a_tape a_number a_read a_readBits a_stands a_parted a_bitsWere a_stood a_chosen a_bestChosen a_often a_sorted a_risen a_risenWays m_thrown (nI m_told) (nI m_taped) (nI m0_at_2) (nI m_to) (nI m_many) (nI k) m_fewest (nI m_size) mt a_readBits_2) := hD
                refine lv_iload_n hx hb dX9_readsRow_106 rfl (lv_at hl 0 rfl) ?_
                refine lv_aload_n hx hb dX9_readsRow_107 rfl (lv_at hl 1 rfl) ?_
                refine va_get (ci := 9) (v := .int (nI k)) (C := RX9) (T := TX9) (N := 24) hx hb hts hi9 hown hK hP 0 rfl rfl 10 (by decide) fl93 (fun _ h9 => h9) rfl dX9_readsRow_108 ?_
                refine lv_icmp_ne (tgt := 147) hx hb dX9_readsRow_111 (by decide) (fun c111 => ?_) (fun c111 => ?_)
                ·
                  have d111 : ((k : Nat) : Int) ≠ ((k : Nat) : Int) := my_ne c111 (nI_toInt (by omega)) (nI_toInt (by omega))
                  refine lv_iconst (v := 0) hx hb dX9_readsRow_147 (by decide +kernel) ?_
                  exact my_retZ hx hb hr hlocks (by decide +kernel) hK hS (wl_k_X9_readsRow cI cJ cK m0 a_row a_tape a_number a_read a_readBits a_stands a_parted a_bitsWere a_stood a_chosen a_bestChosen a_often a_sorted a_risen a_risenWays m_thrown (nI m_told) (nI m_taped) (nI m0_at_2) (nI m_to) (nI m_many) (nI k) m_fewest (nI m_size) mt a_readBits_2) hP hD (Or.inr (⟨m0_at_2, k, a_readBits_2, rfl, rfl, (by first | assumption | omega | trivial | decide +kernel), (by first | assumption | omega | trivial | decide +kernel), hR_a_readBits_2, (by first | assumption | omega | trivial | decide +kernel), (by omega), (fun h9 => by omega), (fun h9 => by omega), (by first | (intro h9; exfalso; omega) | (intro h9; subst hra; first | exact ⟨by omega, by assumption, by omega⟩ | (obtain rfl : k = m_readMany := (by omega); exact ⟨by omega, by assumption, by omega⟩)) | omega), (by first | assumption | omega | trivial | decide +kernel)⟩)) dX9_readsRow_148
                ·
                  have d111 : ((k : Nat) : Int) = ((k : Nat) : Int) := my_eq c111 (nI_toInt (by omega)) (nI_toInt (by omega))
                  refine lv_iload_n hx hb dX9_readsRow_114 rfl (lv_at hl 2 rfl) ?_
                  refine lv_bipush (v := 7) hx hb dX9_readsRow_115 (by decide +kernel) ?_
                  refine lv_icmp_ge (tgt := 132) hx hb dX9_readsRow_117 (by decide) (fun c117 => ?_) (fun c117 => ?_)
                  ·
                    have d117 : ((j : Nat) : Int) ≥ (7 : Int) := my_ge c117 (nI_toInt (by omega)) (by decide +kernel)
                    refine lv_aload_n hx hb dX9_readsRow_132 rfl (lv_at hl 1 rfl) ?_
                    refine va_get (ci := 9) (v := .int (nI m0_at_2)) (C := RX9) (T := TX9) (N := 24) hx hb hts hi9 hown hK hP 0 rfl rfl 5 (by decide) fl28 (fun _ h9 => h9) rfl dX9_readsRow_133 ?_
                    refine lv_aload_n hx hb dX9_readsRow_136 rfl (lv_at hl 1 rfl) ?_
                    refine va_get (ci := 9) (v := .int (nI m_to)) (C := RX9) (T := TX9) (N := 24) hx hb hts hi9 hown hK hP 0 rfl rfl 6 (by decide) fl25 (fun _ h9 => h9) rfl dX9_readsRow_137 ?_
                    refine lv_icmp_ne (tgt := 147) hx hb dX9_readsRow_140 (by decide) (fun c140 => ?_) (fun c140 => ?_)
                    ·
                      have d140 : ((m0_at_2 : Nat) : Int) ≠ ((m_to : Nat) : Int) := my_ne c140 (nI_toInt (by omega)) (nI_toInt (by omega))
                      refine lv_iconst (v := 0) hx hb dX9_readsRow_147 (by decide +kernel) ?_
                      exact my_retZ hx hb hr hlocks (by decide +kernel) hK hS (wl_k_X9_readsRow cI cJ cK m0 a_row a_tape a_number a_read a_readBits a_stands a_parted a_bitsWere a_stood a_chosen a_bestChosen a_often a_sorted a_risen a_risenWays m_thrown (nI m_told) (nI m_taped) (nI m0_at_2) (nI m_to) (nI m_many) (nI k) m_fewest (nI m_size) mt a_readBits_2) hP hD (Or.inr (⟨m0_at_2, k, a_readBits_2, rfl, rfl, (by first | assumption | omega | trivial | decide +kernel), (by first | assumption | omega | trivial | decide +kernel), hR_a_readBits_2, (by first | assumption | omega | trivial | decide +kernel), (by omega), (fun h9 => by omega), (fun h9 => by omega), (by first | (intro h9; exfalso; omega) | (intro h9; subst hra; first | exact ⟨by omega, by assumption, by omega⟩ | (obtain rfl : k = m_readMany := (by omega); exact ⟨by omega, by assumption, by omega⟩)) | omega), (by first | assumption | omega | trivial | decide +kernel)⟩)) dX9_readsRow_148
                    ·
                      have d140 : ((m0_at_2 : Nat) : Int) = ((m_to : Nat) : Int) := my_eq c140 (nI_toInt (by omega)) (nI_toInt (by omega))
                      refine lv_iconst (v := 1) hx hb dX9_readsRow_143 (by decide +kernel) ?_
                      refine lv_goto (tgt := 148) hx hb dX9_readsRow_144 (by decide) ?_
                      exact my_retZ hx hb hr hlocks (by decide +kernel) hK hS (wl_k_X9_readsRow cI cJ cK m0 a_row a_tape a_number a_read a_readBits a_stands a_parted a_bitsWere a_stood a_chosen a_bestChosen a_often a_sorted a_risen a_risenWays m_thrown (nI m_told) (nI m_taped) (nI m0_at_2) (nI m_to) (nI m_many) (nI k) m_fewest (nI m_size) mt a_readBits_2) hP hD (Or.inl ⟨m0_at_2, k, a_readBits_2, rfl, rfl, (by first | assumption | omega | trivial | decide +kernel), (by first | assumption | omega | trivial | decide +kernel), hR_a_readBits_2, (by first | assumption | omega | trivial | decide +kernel), (by omega), (fun h9 => by omega), (by first | (intro h9; exfalso; omega) | (intro h9; subst hra; first | exact ⟨by omega, by assumption, by omega⟩ | (obtain rfl : k = m_readMany := (by omega); exact ⟨by omega, by assumption, by omega⟩)) | omega), (fun h9 => by omega), (by first | assumption | omega | trivial | decide +kernel), (fun i hi => hb1 i (by omega)), hb2⟩) dX9_readsRow_148
                  ·
                    have d117 : ((j : Nat) : Int) < (7 : Int) := my_nge c117 (nI_toInt (by omega)) (by decide +kernel)
                    refine lv_aload_n hx hb dX9_readsRow_120 rfl (lv_at hl 1 rfl) ?_
                    refine lv_bipush (v := 47) hx hb dX9_readsRow_121 (by decide +kernel) ?_
                    refine my_goIS (wc := (wl_k_X9_takes cI cJ cK m0 a_row a_tape a_number a_read a_readBits a_stands a_parted a_bitsWere a_stood a_chosen a_bestChosen a_often a_sorted a_risen a_risenWays m_thrown (nI m_told) (nI m_taped) (nI m0_at_2) (nI m_to) (nI m_many) (nI k) m_fewest (nI m_size) mt)) hP hD hS hA [0, 1] rfl [some 0, some 1] (by decide +kernel) (my_cV (As := [.int 47]) (rest := []) (ci := 9) (wc := (wl_k_X9_takes cI cJ cK m0 a_row a_tape a_number a_read a_readBits a_stands a_parted a_bitsWere a_stood a_chosen a_bestChosen a_often a_sorted a_risen a_risenWays m_thrown (nI m_told) (nI m_taped) (nI m0_at_2) (nI m_to) (nI m_many) (nI k) m_fewest (nI m_size) mt)) ⟨hx, hb, hml, hown, hts⟩ (cwV 1 hts gX9_readsRow_X9_takes rfl rfl rfl (by decide +kernel) ⟨Nat.le_of_ble_eq_true rfl, Nat.le_of_ble_eq_true rfl⟩) hN hK hP hD [0, 1] rfl (by decide) rfl 0 rfl rfl rfl rfl hl.1 rfl (Nat.le_of_ble_eq_true rfl) dX9_readsRow_123 ⟨Nat.le_of_ble_eq_true rfl, Nat.le_of_ble_eq_true rfl⟩  ((k_X9_takes l D cI cJ cK m0 a_row a_tape a_number a_read a_readBits a_stands a_parted a_bitsWere a_stood a_chosen a_bestChosen a_often a_sorted a_risen a_risenWays m_thrown m_told m_taped m0_at_2 m_to m_many k m_fewest m_size mt (47 : Int32) (47 : Int) (by decide +kernel) (by first | assumption | omega | decide +kernel) (by first | assumption | omega | decide +kernel) (by first | assumption | omega | decide +kernel) (by first | assumption | omega | decide +kernel) (by first | assumption | omega | decide +kernel) (by first | assumption | omega | decide +kernel) (by first | assumption | omega | decide +kernel) hR_mt) _)) (fun r u H locs hp hPD hS => ?_)
                    rcases hp with ⟨rfl, rfl, hc_20, he_21⟩ | ⟨rfl, rfl, ho_22⟩
                    ·
                      obtain ⟨hP, hD⟩ := hPD rfl
                      have hP : va_P D vwCl (wl_k_X9_readsRow cI cJ cK m0 a_row a_tape a_number a_read a_readBits a_stands a_parted a_bitsWere a_stood a_chosen a_bestChosen a_often a_sorted a_risen a_risenWays m_thrown (nI m_told) (nI m_taped) (nI (m0_at_2 + 1)) (nI m_to) (nI m_many) (nI k) m_fewest (nI m_size) mt a_readBits_2) H := hP
                      have hD : va_D A (wl_k_X9_readsRow cI cJ cK m0 a_row a_tape a_number a_read a_readBits a_stands a_parted a_bitsWere a_stood a_chosen a_bestChosen a_often a_sorted a_risen a_risenWays m_thrown (nI m_told) (nI m_taped) (nI (m0_at_2 + 1)) (nI m_to) (nI m_many) (nI k) m_fewest (nI m_size) mt a_readBits_2) := hD
                      refine lv_if_eq (tgt := 147) hx hb dX9_readsRow_126 (by decide) (fun c126 => ?_) (fun c126 => ?_)
                      ·
                        exact absurd c126 (by decide +kernel)
                      ·
                        refine lv_goto (tgt := 143) hx hb dX9_readsRow_129 (by decide) ?_
                        refine lv_iconst (v := 1) hx hb dX9_readsRow_143 (by decide +kernel) ?_
                        refine lv_goto (tgt := 148) hx hb dX9_readsRow_144 (by decide) ?_
                        exact my_retZ hx hb hr hlocks (by decide +kernel) hK hS (wl_k_X9_readsRow cI cJ cK m0 a_row a_tape a_number a_read a_readBits a_stands a_parted a_bitsWere a_stood a_chosen a_bestChosen a_often a_sorted a_risen a_risenWays m_thrown (nI m_told) (nI m_taped) (nI (m0_at_2 + 1)) (nI m_to) (nI m_many) (nI k) m_fewest (nI m_size) mt a_readBits_2) hP hD (Or.inl ⟨(m0_at_2 + 1), k, a_readBits_2, rfl, rfl, (by first | assumption | omega | trivial | decide +kernel), (by first | assumption | omega | trivial | decide +kernel), hR_a_readBits_2, (by first | assumption | omega | trivial | decide +kernel), (by omega), (fun h9 => by omega), (by first | (intro h9; exfalso; omega) | (intro h9; subst hra; first | exact ⟨by omega, by assumption, by omega⟩ | (obtain rfl : k = m_readMany := (by omega); exact ⟨by omega, by assumption, by omega⟩)) | omega), (fun h9 => by omega), (by first | assumption | omega | trivial | decide +kernel), (fun i hi => hb1 i (by omega)), hb2⟩) dX9_readsRow_148
                    ·
                      obtain ⟨hP, hD⟩ := hPD rfl
                      have hP : va_P D vwCl (wl_k_X9_readsRow cI cJ cK m0 a_row a_tape a_number a_read a_readBits a_stands a_parted a_bitsWere a_stood a_chosen a_bestChosen a_often a_sorted a_risen a_risenWays m_thrown (nI m_told) (nI m_taped) (nI m0_at_2) (nI m_to) (nI m_many) (nI k) m_fewest (nI m_size) mt a_readBits_2) H := hP
                      have hD : va_D A (wl_k_X9_readsRow cI cJ cK m0 a_row a_tape a_number a_read a_readBits a_stands a_parted a_bitsWere a_stood a_chosen a_bestChosen a_often a_sorted a_risen a_risenWays m_thrown (nI m_told) (nI m_taped) (nI m0_at_2) (nI m_to) (nI m_many) (nI k) m_fewest (nI m_size) mt a_readBits_2) := hD
                      refine lv_if_eq (tgt := 147) hx hb dX9_readsRow_126 (by decide) (fun c126 => ?_) (fun c126 => ?_)
                      ·
                        refine lv_iconst (v := 0) hx hb dX9_readsRow_147 (by decide +kernel) ?_
                        exact my_retZ hx hb hr hlocks (by decide +kernel) hK hS (wl_k_X9_readsRow cI cJ cK m0 a_row a_tape a_number a_read a_readBits a_stands a_parted a_bitsWere a_stood a_chosen a_bestChosen a_often a_sorted a_risen a_risenWays m_thrown (nI m_told) (nI m_taped) (nI m0_at_2) (nI m_to) (nI m_many) (nI k) m_fewest (nI m_size) mt a_readBits_2) hP hD (Or.inr (⟨m0_at_2, k, a_readBits_2, rfl, rfl, (by first | assumption | omega | trivial | decide +kernel), (by first | assumption | omega | trivial | decide +kernel), hR_a_readBits_2, (by first | assumption | omega | trivial | decide +kernel), (by omega), (fun h9 => by omega), (fun h9 => by omega), (by first | (intro h9; exfalso; omega) | (intro h9; subst hra; first | exact ⟨by omega, by assumption, by omega⟩ | (obtain rfl : k = m_readMany := (by omega); exact ⟨by omega, by assumption, by omega⟩)) | omega), (by first | assumption | omega | trivial | decide +kernel)⟩)) dX9_readsRow_148
                      ·
                        exact absurd c126 (by decide +kernel)
            ·
              have d55 : ((k : Nat) : Int) < (11 : Int) := my_nge c55 (nI_toInt (by omega)) (by decide +kernel)
              refine lv_aload_n hx hb dX9_readsRow_58 rfl (lv_at hl 1 rfl) ?_
              refine va_get (ci := 9) (v := .ref a_readBits) (C := RX9) (T := TX9) (N := 24) hx hb hts hi9 hown hK hP 0 rfl rfl 11 (by decide) fl55 (fun _ h9 => h9) rfl dX9_readsRow_59 ?_
              refine lv_bipush (v := 11) hx hb dX9_readsRow_62 (by decide +kernel) ?_
              refine lv_iload_n hx hb dX9_readsRow_64 rfl (lv_at hl 2 rfl) ?_
              refine lv_imul hx hb dX9_readsRow_65 ?_
              refine my_eqi (y := nI (11 * j)) (my_mulN _ _) ?_
              refine lv_iload_n hx hb dX9_readsRow_66 rfl (lv_at hl 0 rfl) ?_
              refine lv_iadd hx hb dX9_readsRow_67 ?_
              refine my_eqi (y := nI (11 * j + k)) (nI_add _ _) ?_
              refine lv_aload_n hx hb dX9_readsRow_68 rfl (lv_at hl 1 rfl) ?_
              refine va_get (ci := 9) (v := .ref a_tape) (C := RX9) (T := TX9) (N := 24) hx hb hts hi9 hown hK hP 0 rfl rfl 3 (by decide) fl17 (fun _ h9 => h9) rfl dX9_readsRow_69 ?_
              refine lv_aload_n hx hb dX9_readsRow_72 rfl (lv_at hl 1 rfl) ?_
              refine va_get (ci := 9) (v := .int (nI m0_at_2)) (C := RX9) (T := TX9) (N := 24) hx hb hts hi9 hown hK hP 0 rfl rfl 5 (by decide) fl28 (fun _ h9 => h9) rfl dX9_readsRow_73 ?_
              refine va_iald hx hb hK hP 1 0 rfl rfl (vp_in_nI (by omega) (by omega)) dX9_readsRow_76 ?_
              refine my_eqi (y := mt m0_at_2) (congrArg mt (nI_clamp (by omega))) ?_
              have hb_23 := hR_mt m0_at_2
              refine lv_bipush (v := 48) hx hb dX9_readsRow_77 (by decide +kernel) ?_
              refine lv_isub hx hb dX9_readsRow_79 ?_
              refine lv_topi (fun z_24 ez_24 => ?_)
              try have tz_24 : z_24.toInt = (mt m0_at_2).toInt - (48 : Int) := by rw [ez_24]; exact my_subI rfl (by decide +kernel) (by omega) (by omega)
              refine va_iast hx hb hK hP hD hS 2 0 rfl rfl (vp_in_nI (by omega) (by omega)) dX9_readsRow_80 (fun H locs hP hD hS => ?_)
              obtain ⟨g_25, eg_25⟩ : ∃ g : Nat → Int32, g = upd a_readBits_2 (11 * j + k) z_24 := ⟨_, rfl⟩
              have eU : upd a_readBits_2 (nI (11 * j + k) : Int32).toNatClampNeg z_24 = g_25 := by rw [eg_25, show (nI (11 * j + k) : Int32).toNatClampNeg = 11 * j + k from nI_clamp (by omega)]
              rw [eU] at hP hD
              have hR_g_25 : RB 0 1 g_25 := by rw [eg_25]; exact hR_a_readBits_2.upd rfl (by omega) (by omega)
              have hP : va_P D vwCl (wl_k_X9_readsRow cI cJ cK m0 a_row a_tape a_number a_read a_readBits a_stands a_parted a_bitsWere a_stood a_chosen a_bestChosen a_often a_sorted a_risen a_risenWays m_thrown (nI m_told) (nI m_taped) (nI m0_at_2) (nI m_to) (nI m_many) (nI m_readMany) m_fewest (nI m_size) mt g_25) H := hP
              have hD : va_D A (wl_k_X9_readsRow cI cJ cK m0 a_row a_tape a_number a_read a_readBits a_stands a_parted a_bitsWere a_stood a_chosen a_bestChosen a_often a_sorted a_risen a_risenWays m_thrown (nI m_told) (nI m_taped) (nI m0_at_2) (nI m_to) (nI m_many) (nI m_readMany) m_fewest (nI m_size) mt g_25) := hD
              refine lv_aload_n hx hb dX9_readsRow_81 rfl (lv_at hl 1 rfl) ?_
              refine lv_dup hx hb dX9_readsRow_82 rfl ?_
              refine va_get (ci := 9) (v := .int (nI m0_at_2)) (C := RX9) (T := TX9) (N := 24) hx hb hts hi9 hown hK hP 0 rfl rfl 5 (by decide) fl28 (fun _ h9 => h9) rfl dX9_readsRow_83 ?_
              refine lv_iconst (v := 1) hx hb dX9_readsRow_86 (by decide +kernel) ?_
              refine lv_iadd hx hb dX9_readsRow_87 ?_
              refine my_eqi (y := nI (m0_at_2 + 1)) (my_addN m0_at_2 1) ?_
              refine va_put (ci := 9) (v := .int (nI (m0_at_2 + 1))) (ty := (.int)) (C := RX9) (T := TX9) (N := 24) hx hb hts hi9 tyX9 tyX9_ok nmX9 hown hK hP hD hS 0 rfl rfl 5 (by decide) fl28 (fun _ h9 => h9) rfl (by decide +kernel) rfl rfl (Nat.le_of_ble_eq_true rfl) dX9_readsRow_88 (fun H locs hP hD hS => ?_)
              have hP : va_P D vwCl (wl_k_X9_readsRow cI cJ cK m0 a_row a_tape a_number a_read a_readBits a_stands a_parted a_bitsWere a_stood a_chosen a_bestChosen a_often a_sorted a_risen a_risenWays m_thrown (nI m_told) (nI m_taped) (nI (m0_at_2 + 1)) (nI m_to) (nI m_many) (nI m_readMany) m_fewest (nI m_size) mt g_25) H := hP
              have hD : va_D A (wl_k_X9_readsRow cI cJ cK m0 a_row a_tape a_number a_read a_readBits a_stands a_parted a_bitsWere a_stood a_chosen a_bestChosen a_often a_sorted a_risen a_risenWays m_thrown (nI m_told) (nI m_taped) (nI (m0_at_2 + 1)) (nI m_to) (nI m_many) (nI m_readMany) m_fewest (nI m_size) mt g_25) := hD
              refine lv_iinc (v := nI (k + 1)) (lv' := [(2, .int (nI (k + 1))), (0, .ref m0), (1, .int (nI j))]) hx hb dX9_readsRow_91 hl (k := 0) rfl (my_incN k 1 (by decide +kernel)) (by decide) rfl (fun ls hl => ?_)
              refine lv_goto (tgt := 2) hx hb dX9_readsRow_94 (by decide) ?_
              exact ih2  (k + 1) (m0_at_2 + 1) g_25 (by omega) (by first | assumption | omega | decide +kernel) (by first | assumption | omega | decide +kernel) (by first | assumption | omega | decide +kernel) (by first | assumption | omega | decide +kernel) (by have h9 := bl_yes (f := mt) (n := m_to) (m := (rmo j m_readMany)) (k := k) (a := m0_at_2) (by omega) (bitS_iff.mpr ⟨by omega, by omega, by omega⟩); omega) (rb_step (by assumption) (by subst hra; exact bit_val (by assumption) (by omega)) hb1) (ro_step (by assumption) (by omega) hb2) (by first | assumption | omega | decide +kernel) hR_g_25 _ _ ls hP hD hS (lv_sub hl [0, 1, 2] rfl)
        ·
          have d24 : (mt m0_at_2).toInt ≠ (48 : Int) := my_ne c24 rfl (by decide +kernel)
          refine lv_aload_n hx hb dX9_readsRow_27 rfl (lv_at hl 1 rfl) ?_
          refine va_get (ci := 9) (v := .ref a_tape) (C := RX9) (T := TX9) (N := 24) hx hb hts hi9 hown hK hP 0 rfl rfl 3 (by decide) fl17 (fun _ h9 => h9) rfl dX9_readsRow_28 ?_
          refine lv_aload_n hx hb dX9_readsRow_31 rfl (lv_at hl 1 rfl) ?_
          refine va_get (ci := 9) (v := .int (nI m0_at_2)) (C := RX9) (T := TX9) (N := 24) hx hb hts hi9 hown hK hP 0 rfl rfl 5 (by decide) fl28 (fun _ h9 => h9) rfl dX9_readsRow_32 ?_
          refine va_iald hx hb hK hP 1 0 rfl rfl (vp_in_nI (by omega) (by omega)) dX9_readsRow_35 ?_
          refine my_eqi (y := mt m0_at_2) (congrArg mt (nI_clamp (by omega))) ?_
          have hb_26 := hR_mt m0_at_2
          refine lv_bipush (v := 49) hx hb dX9_readsRow_36 (by decide +kernel) ?_
          refine lv_icmp_ne (tgt := 97) hx hb dX9_readsRow_38 (by decide) (fun c38 => ?_) (fun c38 => ?_)
          ·
            have d38 : (mt m0_at_2).toInt ≠ (49 : Int) := my_ne c38 rfl (by decide +kernel)
            have hex := bl_exit (f := mt) (n := m_to) (m := (rmo j m_readMany)) (k := k) (a := m0_at_2) (by first | (left; omega) | (right; exact bitS_no (by omega)))
            have hkb : k = blen mt m_to (rmo j m_readMany) m_at := by omega
            refine lv_iload_n hx hb dX9_readsRow_97 rfl (lv_at hl 2 rfl) ?_
            refine lv_if_ne (tgt := 106) hx hb dX9_readsRow_98 (by decide) (fun c98 => ?_) (fun c98 => ?_)
            ·
              have d98 : ((j : Nat) : Int) ≠ (0 : Int) := my_ne c98 (nI_toInt (by omega)) (by decide +kernel)
              refine lv_iload_n hx hb dX9_readsRow_106 rfl (lv_at hl 0 rfl) ?_
              refine lv_aload_n hx hb dX9_readsRow_107 rfl (lv_at hl 1 rfl) ?_
              refine va_get (ci := 9) (v := .int (nI m_readMany)) (C := RX9) (T := TX9) (N := 24) hx hb hts hi9 hown hK hP 0 rfl rfl 10 (by decide) fl93 (fun _ h9 => h9) rfl dX9_readsRow_108 ?_
              refine lv_icmp_ne (tgt := 147) hx hb dX9_readsRow_111 (by decide) (fun c111 => ?_) (fun c111 => ?_)
              ·
                have d111 : ((k : Nat) : Int) ≠ ((m_readMany : Nat) : Int) := my_ne c111 (nI_toInt (by omega)) (nI_toInt (by omega))
                refine lv_iconst (v := 0) hx hb dX9_readsRow_147 (by decide +kernel) ?_
                exact my_retZ hx hb hr hlocks (by decide +kernel) hK hS (wl_k_X9_readsRow cI cJ cK m0 a_row a_tape a_number a_read a_readBits a_stands a_parted a_bitsWere a_stood a_chosen a_bestChosen a_often a_sorted a_risen a_risenWays m_thrown (nI m_told) (nI m_taped) (nI m0_at_2) (nI m_to) (nI m_many) (nI m_readMany) m_fewest (nI m_size) mt a_readBits_2) hP hD (Or.inr (⟨m0_at_2, m_readMany, a_readBits_2, rfl, rfl, (by first | assumption | omega | trivial | decide +kernel), (by first | assumption | omega | trivial | decide +kernel), hR_a_readBits_2, (by first | assumption | omega | trivial | decide +kernel), (by omega), (fun h9 => by omega), (fun h9 => by omega), (by first | (intro h9; exfalso; omega) | (intro h9; subst hra; first | exact ⟨by omega, by assumption, by omega⟩ | (obtain rfl : k = m_readMany := (by omega); exact ⟨by omega, by assumption, by omega⟩)) | omega), (by first | assumption | omega | trivial | decide +kernel)⟩)) dX9_readsRow_148
              ·
                have d111 : ((k : Nat) : Int) = ((m_readMany : Nat) : Int) := my_eq c111 (nI_toInt (by omega)) (nI_toInt (by omega))
                refine lv_iload_n hx hb dX9_readsRow_114 rfl (lv_at hl 2 rfl) ?_
                refine lv_bipush (v := 7) hx hb dX9_readsRow_115 (by decide +kernel) ?_
                refine lv_icmp_ge (tgt := 132) hx hb dX9_readsRow_117 (by decide) (fun c117 => ?_) (fun c117 => ?_)
                ·
                  have d117 : ((j : Nat) : Int) ≥ (7 : Int) := my_ge c117 (nI_toInt (by omega)) (by decide +kernel)
                  refine lv_aload_n hx hb dX9_readsRow_132 rfl (lv_at hl 1 rfl) ?_
                  refine va_get (ci := 9) (v := .int (nI m0_at_2)) (C := RX9) (T := TX9) (N := 24) hx hb hts hi9 hown hK hP 0 rfl rfl 5 (by decide) fl28 (fun _ h9 => h9) rfl dX9_readsRow_133 ?_
                  refine lv_aload_n hx hb dX9_readsRow_136 rfl (lv_at hl 1 rfl) ?_
                  refine va_get (ci := 9) (v := .int (nI m_to)) (C := RX9) (T := TX9) (N := 24) hx hb hts hi9 hown hK hP 0 rfl rfl 6 (by decide) fl25 (fun _ h9 => h9) rfl dX9_readsRow_137 ?_
                  refine lv_icmp_ne (tgt := 147) hx hb dX9_readsRow_140 (by decide) (fun c140 => ?_) (fun c140 => ?_)
                  ·
                    have d140 : ((m0_at_2 : Nat) : Int) ≠ ((m_to : Nat) : Int) := my_ne c140 (nI_toInt (by omega)) (nI_toInt (by omega))
                    refine lv_iconst (v := 0) hx hb dX9_readsRow_147 (by decide +kernel) ?_
                    exact my_retZ hx hb hr hlocks (by decide +kernel) hK hS (wl_k_X9_readsRow cI cJ cK m0 a_row a_tape a_number a_read a_readBits a_stands a_parted a_bitsWere a_stood a_chosen a_bestChosen a_often a_sorted a_risen a_risenWays m_thrown (nI m_told) (nI m_taped) (nI m0_at_2) (nI m_to) (nI m_many) (nI m_readMany) m_fewest (nI m_size) mt a_readBits_2) hP hD (Or.inr (⟨m0_at_2, m_readMany, a_readBits_2, rfl, rfl, (by first | assumption | omega | trivial | decide +kernel), (by first | assumption | omega | trivial | decide +kernel), hR_a_readBits_2, (by first | assumption | omega | trivial | decide +kernel), (by omega), (fun h9 => by omega), (fun h9 => by omega), (by first | (intro h9; exfalso; omega) | (intro h9; subst hra; first | exact ⟨by omega, by assumption, by omega⟩ | (obtain rfl : k = m_readMany := (by omega); exact ⟨by omega, by assumption, by omega⟩)) | omega), (by first | assumption | omega | trivial | decide +kernel)⟩)) dX9_readsRow_148
                  ·
                    have d140 : ((m0_at_2 : Nat) : Int) = ((m_to : Nat) : Int) := my_eq c140 (nI_toInt (by omega)) (nI_toInt (by omega))
                    refine lv_iconst (v := 1) hx hb dX9_readsRow_143 (by decide +kernel) ?_
                    refine lv_goto (tgt := 148) hx hb dX9_readsRow_144 (by decide) ?_
                    exact my_retZ hx hb hr hlocks (by decide +kernel) hK hS (wl_k_X9_readsRow cI cJ cK m0 a_row a_tape a_number a_read a_readBits a_stands a_parted a_bitsWere a_stood a_chosen a_bestChosen a_often a_sorted a_risen a_risenWays m_thrown (nI m_told) (nI m_taped) (nI m0_at_2) (nI m_to) (nI m_many) (nI m_readMany) m_fewest (nI m_size) mt a_readBits_2) hP hD (Or.inl ⟨m0_at_2, m_readMany, a_readBits_2, rfl, rfl, (by first | assumption | omega | trivial | decide +kernel), (by first | assumption | omega | trivial | decide +kernel), hR_a_readBits_2, (by first | assumption | omega | trivial | decide +kernel), (by omega), (fun h9 => by omega), (by first | (intro h9; exfalso; omega) | (intro h9; subst hra; first | exact ⟨by omega, by assumption, by omega⟩ | (obtain rfl : k = m_readMany := (by omega); exact ⟨by omega, by assumption, by omega⟩)) | omega), (fun h9 => by omega), (by first | assumption | omega | trivial | decide +kernel), (fun i hi => hb1 i (by omega)), hb2⟩) dX9_readsRow_148
                ·
                  have d117 : ((j : Nat) : Int) < (7 : Int) := my_nge c117 (nI_toInt (by omega)) (by decide +kernel)
                  refine lv_aload_n hx hb dX9_readsRow_120 rfl (lv_at hl 1 rfl) ?_
                  refine lv_bipush (v := 47) hx hb dX9_readsRow_121 (by decide +kernel) ?_
                  refine my_goIS (wc := (wl_k_X9_takes cI cJ cK m0 a_row a_tape a_number a_read a_readBits a_stands a_parted a_bitsWere a_stood a_chosen a_bestChosen a_often a_sorted a_risen a_risenWays m_thrown (nI m_told) (nI m_taped) (nI m0_at_2) (nI m_to) (nI m_many) (nI m_readMany) m_fewest (nI m_size) mt)) hP hD hS hA [0, 1] rfl [some 0, some 1] (by decide +kernel) (my_cV (As := [.int 47]) (rest := []) (ci := 9) (wc := (wl_k_X9_takes cI cJ cK m0 a_row a_tape a_number a_read a_readBits a_stands a_parted a_bitsWere a_stood a_chosen a_bestChosen a_often a_sorted a_risen a_risenWays m_thrown (nI m_told) (nI m_taped) (nI m0_at_2) (nI m_to) (nI m_many) (nI m_readMany) m_fewest (nI m_size) mt)) ⟨hx, hb, hml, hown, hts⟩ (cwV 1 hts gX9_readsRow_X9_takes rfl rfl rfl (by decide +kernel) ⟨Nat.le_of_ble_eq_true rfl, Nat.le_of_ble_eq_true rfl⟩) hN hK hP hD [0, 1] rfl (by decide) rfl 0 rfl rfl rfl rfl hl.1 rfl (Nat.le_of_ble_eq_true rfl) dX9_readsRow_123 ⟨Nat.le_of_ble_eq_true rfl, Nat.le_of_ble_eq_true rfl⟩  ((k_X9_takes l D cI cJ cK m0 a_row a_tape a_number a_read a_readBits a_stands a_parted a_bitsWere a_stood a_chosen a_bestChosen a_often a_sorted a_risen a_risenWays m_thrown m_told m_taped m0_at_2 m_to m_many m_readMany m_fewest m_size mt (47 : Int32) (47 : Int) (by decide +kernel) (by first | assumption | omega | decide +kernel) (by first | assumption | omega | decide +kernel) (by first | assumption | omega | decide +kernel) (by first | assumption | omega | decide +kernel) (by first | assumption | omega | decide +kernel) (by first | assumption | omega | decide +kernel) (by first | assumption | omega | decide +kernel) hR_mt) _)) (fun r u H locs hp hPD hS => ?_)
                  rcases hp with ⟨rfl, rfl, hc_27, he_28⟩ | ⟨rfl, rfl, ho_29⟩
                  ·
                    obtain ⟨hP, hD⟩ := hPD rfl
                    have hP : va_P D vwCl (wl_k_X9_readsRow cI cJ cK m0 a_row a_tape a_number a_read a_readBits a_stands a_parted a_bitsWere a_stood a_chosen a_bestChosen a_often a_sorted a_risen a_risenWays m_thrown (nI m_told) (nI m_taped) (nI (m0_at_2 + 1)) (nI m_to) (nI m_many) (nI m_readMany) m_fewest (nI m_size) mt a_readBits_2) H := hP
                    have hD : va_D A (wl_k_X9_readsRow cI cJ cK m0 a_row a_tape a_number a_read a_readBits a_stands a_parted a_bitsWere a_stood a_chosen a_bestChosen a_often a_sorted a_risen a_risenWays m_thrown (nI m_told) (nI m_taped) (nI (m0_at_2 + 1)) (nI m_to) (nI m_many) (nI m_readMany) m_fewest (nI m_size) mt a_readBits_2) := hD
                    refine lv_if_eq (tgt := 147) hx hb dX9_readsRow_126 (by decide) (fun c126 => ?_) (fun c126 => ?_)
                    ·
                      exact absurd c126 (by decide +kernel)
                    ·
                      refine lv_goto (tgt := 143) hx hb dX9_readsRow_129 (by decide) ?_
                      refine lv_iconst (v := 1) hx hb dX9_readsRow_143 (by decide +kernel) ?_
                      refine lv_goto (tgt := 148) hx hb dX9_readsRow_144 (by decide) ?_
                      exact my_retZ hx hb hr hlocks (by decide +kernel) hK hS (wl_k_X9_readsRow cI cJ cK m0 a_row a_tape a_number a_read a_readBits a_stands a_parted a_bitsWere a_stood a_chosen a_bestChosen a_often a_sorted a_risen a_risenWays m_thrown (nI m_told) (nI m_taped) (nI (m0_at_2 + 1)) (nI m_to) (nI m_many) (nI m_readMany) m_fewest (nI m_size) mt a_readBits_2) hP hD (Or.inl ⟨(m0_at_2 + 1), m_readMany, a_readBits_2, rfl, rfl, (by first | assumption | omega | trivial | decide +kernel), (by first | assumption | omega | trivial | decide +kernel), hR_a_readBits_2, (by first | assumption | omega | trivial | decide +kernel), (by omega), (fun h9 => by omega), (by first | (intro h9; exfalso; omega) | (intro h9; subst hra; first | exact ⟨by omega, by assumption, by omega⟩ | (obtain rfl : k = m_readMany := (by omega); exact ⟨by omega, by assumption, by omega⟩)) | omega), (fun h9 => by omega), (by first | assumption | omega | trivial | decide +kernel), (fun i hi => hb1 i (by omega)), hb2⟩) dX9_readsRow_148
                  ·
                    obtain ⟨hP, hD⟩ := hPD rfl
                    have hP : va_P D vwCl (wl_k_X9_readsRow cI cJ cK m0 a_row a_tape a_number a_read a_readBits a_stands a_parted a_bitsWere a_stood a_chosen a_bestChosen a_often a_sorted a_risen a_risenWays m_thrown (nI m_told) (nI m_taped) (nI m0_at_2) (nI m_to) (nI m_many) (nI m_readMany) m_fewest (nI m_size) mt a_readBits_2) H := hP
                    have hD : va_D A (wl_k_X9_readsRow cI cJ cK m0 a_row a_tape a_number a_read a_readBits a_stands a_parted a_bitsWere a_stood a_chosen a_bestChosen a_often a_sorted a_risen a_risenWays m_thrown (nI m_told) (nI m_taped) (nI m0_at_2) (nI m_to) (nI m_many) (nI m_readMany) m_fewest (nI m_size) mt a_readBits_2) := hD
                    refine lv_if_eq (tgt := 147) hx hb dX9_readsRow_126 (by decide) (fun c126 => ?_) (fun c126 => ?_)
                    ·
                      refine lv_iconst (v := 0) hx hb dX9_readsRow_147 (by decide +kernel) ?_
                      exact my_retZ hx hb hr hlocks (by decide +kernel) hK hS (wl_k_X9_readsRow cI cJ cK m0 a_row a_tape a_number a_read a_readBits a_stands a_parted a_bitsWere a_stood a_chosen a_bestChosen a_often a_sorted a_risen a_risenWays m_thrown (nI m_told) (nI m_taped) (nI m0_at_2) (nI m_to) (nI m_many) (nI m_readMany) m_fewest (nI m_size) mt a_readBits_2) hP hD (Or.inr (⟨m0_at_2, m_readMany, a_readBits_2, rfl, rfl, (by first | assumption | omega | trivial | decide +kernel), (by first | assumption | omega | trivial | decide +kernel), hR_a_readBits_2, (by first | assumption | omega | trivial | decide +kernel), (by omega), (fun h9 => by omega), (fun h9 => by omega), (by first | (intro h9; exfalso; omega) | (intro h9; subst hra; first | exact ⟨by omega, by assumption, by omega⟩ | (obtain rfl : k = m_readMany := (by omega); exact ⟨by omega, by assumption, by omega⟩)) | omega), (by first | assumption | omega | trivial | decide +kernel)⟩)) dX9_readsRow_148
                    ·
                      exact absurd c126 (by decide +kernel)
            ·
              have d98 : ((j : Nat) : Int) = (0 : Int) := my_eq c98 (nI_toInt (by omega)) (by decide +kernel)
              refine lv_aload_n hx hb dX9_readsRow_101 rfl (lv_at hl 1 rfl) ?_
              refine lv_iload_n hx hb dX9_readsRow_102 rfl (lv_at hl 0 rfl) ?_
              refine va_put (ci := 9) (v := .int (nI k)) (ty := (.int)) (C := RX9) (T := TX9) (N := 24) hx hb hts hi9 tyX9 tyX9_ok nmX9 hown hK hP hD hS 0 rfl rfl 10 (by decide) fl93 (fun _ h9 => h9) rfl (by decide +kernel) rfl rfl (Nat.le_of_ble_eq_true rfl) dX9_readsRow_103 (fun H locs hP hD hS => ?_)
              have hP : va_P D vwCl (wl_k_X9_readsRow cI cJ cK m0 a_row a_tape a_number a_read a_readBits a_stands a_parted a_bitsWere a_stood a_chosen a_bestChosen a_often a_sorted a_risen a_risenWays m_thrown (nI m_told) (nI m_taped) (nI m0_at_2) (nI m_to) (nI m_many) (nI k) m_fewest (nI m_size) mt a_readBits_2) H := hP
              have hD : va_D A (wl_k_X9_readsRow cI cJ cK m0 a_row a_tape a_number a_read a_readBits a_stands a_parted a_bitsWere a_stood a_chosen a_bestChosen a_often a_sorted a_risen a_risenWays m_thrown (nI m_told) (nI m_taped) (nI m0_at_2) (nI m_to) (nI m_many) (nI k) m_fewest (nI m_size) mt a_readBits_2) := hD
              refine lv_iload_n hx hb dX9_readsRow_106 rfl (lv_at hl 0 rfl) ?_
              refine lv_aload_n hx hb dX9_readsRow_107 rfl (lv_at hl 1 rfl) ?_
              refine va_get (ci := 9) (v := .int (nI k)) (C := RX9) (T := TX9) (N := 24) hx hb hts hi9 hown hK hP 0 rfl rfl 10 (by decide) fl93 (fun _ h9 => h9) rfl dX9_readsRow_108 ?_
              refine lv_icmp_ne (tgt := 147) hx hb dX9_readsRow_111 (by decide) (fun c111 => ?_) (fun c111 => ?_)
              ·
                have d111 : ((k : Nat) : Int) ≠ ((k : Nat) : Int) := my_ne c111 (nI_toInt (by omega)) (nI_toInt (by omega))
                refine lv_iconst (v := 0) hx hb dX9_readsRow_147 (by decide +kernel) ?_
                exact my_retZ hx hb hr hlocks (by decide +kernel) hK hS (wl_k_X9_readsRow cI cJ cK m0 a_row a_tape a_number a_read a_readBits a_stands a_parted a_bitsWere a_stood a_chosen a_bestChosen a_often a_sorted a_risen a_risenWays m_thrown (nI m_told) (nI m_taped) (nI m0_at_2) (nI m_to) (nI m_many) (nI k) m_fewest (nI m_size) mt a_readBits_2) hP hD (Or.inr (⟨m0_at_2, k, a_readBits_2, rfl, rfl, (by first | assumption | omega | trivial | decide +kernel), (by first | assumption | omega | trivial | decide +kernel), hR_a_readBits_2, (by first | assumption | omega | trivial | decide +kernel), (by omega), (fun h9 => by omega), (fun h9 => by omega), (by first | (intro h9; exfalso; omega) | (intro h9; subst hra; first | exact ⟨by omega, by assumption, by omega⟩ | (obtain rfl : k = m_readMany := (by omega); exact ⟨by omega, by assumption, by omega⟩)) | omega), (by first | assumption | omega | trivial | decide +kernel)⟩)) dX9_readsRow_148
              ·
                have d111 : ((k : Nat) : Int) = ((k : Nat) : Int) := my_eq c111 (nI_toInt (by omega)) (nI_toInt (by omega))
                refine lv_iload_n hx hb dX9_readsRow_114 rfl (lv_at hl 2 rfl) ?_
                refine lv_bipush (v := 7) hx hb dX9_readsRow_115 (by decide +kernel) ?_
                refine lv_icmp_ge (tgt := 132) hx hb dX9_readsRow_117 (by decide) (fun c117 => ?_) (fun c117 => ?_)
                ·
                  have d117 : ((j : Nat) : Int) ≥ (7 : Int) := my_ge c117 (nI_toInt (by omega)) (by decide +kernel)
                  refine lv_aload_n hx hb dX9_readsRow_132 rfl (lv_at hl 1 rfl) ?_
                  refine va_get (ci := 9) (v := .int (nI m0_at_2)) (C := RX9) (T := TX9) (N := 24) hx hb hts hi9 hown hK hP 0 rfl rfl 5 (by decide) fl28 (fun _ h9 => h9) rfl dX9_readsRow_133 ?_
                  refine lv_aload_n hx hb dX9_readsRow_136 rfl (lv_at hl 1 rfl) ?_
                  refine va_get (ci := 9) (v := .int (nI m_to)) (C := RX9) (T := TX9) (N := 24) hx hb hts hi9 hown hK hP 0 rfl rfl 6 (by decide) fl25 (fun _ h9 => h9) rfl dX9_readsRow_137 ?_
                  refine lv_icmp_ne (tgt := 147) hx hb dX9_readsRow_140 (by decide) (fun c140 => ?_) (fun c140 => ?_)
                  ·
                    have d140 : ((m0_at_2 : Nat) : Int) ≠ ((m_to : Nat) : Int) := my_ne c140 (nI_toInt (by omega)) (nI_toInt (by omega))
                    refine lv_iconst (v := 0) hx hb dX9_readsRow_147 (by decide +kernel) ?_
                    exact my_retZ hx hb hr hlocks (by decide +kernel) hK hS (wl_k_X9_readsRow cI cJ cK m0 a_row a_tape a_number a_read a_readBits a_stands a_parted a_bitsWere a_stood a_chosen a_bestChosen a_often a_sorted a_risen a_risenWays m_thrown (nI m_told) (nI m_taped) (nI m0_at_2) (nI m_to) (nI m_many) (nI k) m_fewest (nI m_size) mt a_readBits_2) hP hD (Or.inr (⟨m0_at_2, k, a_readBits_2, rfl, rfl, (by first | assumption | omega | trivial | decide +kernel), (by first | assumption | omega | trivial | decide +kernel), hR_a_readBits_2, (by first | assumption | omega | trivial | decide +kernel), (by omega), (fun h9 => by omega), (fun h9 => by omega), (by first | (intro h9; exfalso; omega) | (intro h9; subst hra; first | exact ⟨by omega, by assumption, by omega⟩ | (obtain rfl : k = m_readMany := (by omega); exact ⟨by omega, by assumption, by omega⟩)) | omega), (by first | assumption | omega | trivial | decide +kernel)⟩)) dX9_readsRow_148
                  ·
                    have d140 : ((m0_at_2 : Nat) : Int) = ((m_to : Nat) : Int) := my_eq c140 (nI_toInt (by omega)) (nI_toInt (by omega))
                    refine lv_iconst (v := 1) hx hb dX9_readsRow_143 (by decide +kernel) ?_
                    refine lv_goto (tgt := 148) hx hb dX9_readsRow_144 (by decide) ?_
                    exact my_retZ hx hb hr hlocks (by decide +kernel) hK hS (wl_k_X9_readsRow cI cJ cK m0 a_row a_tape a_number a_read a_readBits a_stands a_parted a_bitsWere a_stood a_chosen a_bestChosen a_often a_sorted a_risen a_risenWays m_thrown (nI m_told) (nI m_taped) (nI m0_at_2) (nI m_to) (nI m_many) (nI k) m_fewest (nI m_size) mt a_readBits_2) hP hD (Or.inl ⟨m0_at_2, k, a_readBits_2, rfl, rfl, (by first | assumption | omega | trivial | decide +kernel), (by first | assumption | omega | trivial | decide +kernel), hR_a_readBits_2, (by first | assumption | omega | trivial | decide +kernel), (by omega), (fun h9 => by omega), (by first | (intro h9; exfalso; omega) | (intro h9; subst hra; first | exact ⟨by omega, by assumption, by omega⟩ | (obtain rfl : k = m_readMany := (by omega); exact ⟨by omega, by assumption, by omega⟩)) | omega), (fun h9 => by omega), (by first | assumption | omega | trivial | decide +kernel), (fun i hi => hb1 i (by omega)), hb2⟩) dX9_readsRow_148
                ·
                  have d117 : ((j : Nat) : Int) < (7 : Int) := my_nge c117 (nI_toInt (by omega)) (by decide +kernel)
                  refine lv_aload_n hx hb dX9_readsRow_120 rfl (lv_at hl 1 rfl) ?_
                  refine lv_bipush (v := 47) hx hb dX9_readsRow_121 (by decide +kernel) ?_
                  refine my_goIS (wc := (wl_k_X9_takes cI cJ cK m0 a_row a_tape a_number a_read a_readBits a_stands a_parted a_bitsWere a_stood a_chosen a_bestChosen a_often a_sorted a_risen a_risenWays m_thrown (nI m_told) (nI m_taped) (nI m0_at_2) (nI m_to) (nI m_many) (nI k) m_fewest (nI m_size) mt)) hP hD hS hA [0, 1] rfl [some 0, some 1] (by decide +kernel) (my_cV (As := [.int 47]) (rest := []) (ci := 9) (wc := (wl_k_X9_takes cI cJ cK m0 a_row a_tape a_number a_read a_readBits a_stands a_parted a_bitsWere a_stood a_chosen a_bestChosen a_often a_sorted a_risen a_risenWays m_thrown (nI m_told) (nI m_taped) (nI m0_at_2) (nI m_to) (nI m_many) (nI k) m_fewest (nI m_size) mt)) ⟨hx, hb, hml, hown, hts⟩ (cwV 1 hts gX9_readsRow_X9_takes rfl rfl rfl (by decide +kernel) ⟨Nat.le_of_ble_eq_true rfl, Nat.le_of_ble_eq_true rfl⟩) hN hK hP hD [0, 1] rfl (by decide) rfl 0 rfl rfl rfl rfl hl.1 rfl (Nat.le_of_ble_eq_true rfl) dX9_readsRow_123 ⟨Nat.le_of_ble_eq_true rfl, Nat.le_of_ble_eq_true rfl⟩  ((k_X9_takes l D cI cJ cK m0 a_row a_tape a_number a_read a_readBits a_stands a_parted a_bitsWere a_stood a_chosen a_bestChosen a_often a_sorted a_risen a_risenWays m_thrown m_told m_taped m0_at_2 m_to m_many k m_fewest m_size mt (47 : Int32) (47 : Int) (by decide +kernel) (by first | assumption | omega | decide +kernel) (by first | assumption | omega | decide +kernel) (by first | assumption | omega | decide +kernel) (by first | assumption | omega | decide +kernel) (by first | assumption | omega | decide +kernel) (by first | assumption | omega | decide +kernel) (by first | assumption | omega | decide +kernel) hR_mt) _)) (fun r u H locs hp hPD hS => ?_)
                  rcases hp with ⟨rfl, rfl, hc_30, he_31⟩ | ⟨rfl, rfl, ho_32⟩
                  ·
                    obtain ⟨hP, hD⟩ := hPD rfl
                    have hP : va_P D vwCl (wl_k_X9_readsRow cI cJ cK m0 a_row a_tape a_number a_read a_readBits a_stands a_parted a_bitsWere a_stood a_chosen a_bestChosen a_often a_sorted a_risen a_risenWays m_thrown (nI m_told) (nI m_taped) (nI (m0_at_2 + 1)) (nI m_to) (nI m_many) (nI k) m_fewest (nI m_size) mt a_readBits_2) H := hP
                    have hD : va_D A (wl_k_X9_readsRow cI cJ cK m0 a_row a_tape a_number a_read a_readBits a_stands a_parted a_bitsWere a_stood a_chosen a_bestChosen a_often a_sorted a_risen a_risenWays m_thrown (nI m_told) (nI m_taped) (nI (m0_at_2 + 1)) (nI m_to) (nI m_many) (nI k) m_fewest (nI m_size) mt a_readBits_2) := hD
                    refine lv_if_eq (tgt := 147) hx hb dX9_readsRow_126 (by decide) (fun c126 => ?_) (fun c126 => ?_)
                    ·
                      exact absurd c126 (by decide +kernel)
                    ·
                      refine lv_goto (tgt := 143) hx hb dX9_readsRow_129 (by decide) ?_
                      refine lv_iconst (v := 1) hx hb dX9_readsRow_143 (by decide +kernel) ?_
                      refine lv_goto (tgt := 148) hx hb dX9_readsRow_144 (by decide) ?_
                      exact my_retZ hx hb hr hlocks (by decide +kernel) hK hS (wl_k_X9_readsRow cI cJ cK m0 a_row a_tape a_number a_read a_readBits a_stands a_parted a_bitsWere a_stood a_chosen a_bestChosen a_often a_sorted a_risen a_risenWays m_thrown (nI m_told) (nI m_taped) (nI (m0_at_2 + 1)) (nI m_to) (nI m_many) (nI k) m_fewest (nI m_size) mt a_readBits_2) hP hD (Or.inl ⟨(m0_at_2 + 1), k, a_readBits_2, rfl, rfl, (by first | assumption | omega | trivial | decide +kernel), (by first | assumption | omega | trivial | decide +kernel), hR_a_readBits_2, (by first | assumption | omega | trivial | decide +kernel), (by omega), (fun h9 => by omega), (by first | (intro h9; exfalso; omega) | (intro h9; subst hra; first | exact ⟨by omega, by assumption, by omega⟩ | (obtain rfl : k = m_readMany := (by omega); exact ⟨by omega, by assumption, by omega⟩)) | omega), (fun h9 => by omega), (by first | assumption | omega | trivial | decide +kernel), (fun i hi => hb1 i (by omega)), hb2⟩) dX9_readsRow_148
                  ·
                    obtain ⟨hP, hD⟩ := hPD rfl
                    have hP : va_P D vwCl (wl_k_X9_readsRow cI cJ cK m0 a_row a_tape a_number a_read a_readBits a_stands a_parted a_bitsWere a_stood a_chosen a_bestChosen a_often a_sorted a_risen a_risenWays m_thrown (nI m_told) (nI m_taped) (nI m0_at_2) (nI m_to) (nI m_many) (nI k) m_fewest (nI m_size) mt a_readBits_2) H := hP
                    have hD : va_D A (wl_k_X9_readsRow cI cJ cK m0 a_row a_tape a_number a_read a_readBits a_stands a_parted a_bitsWere a_stood a_chosen a_bestChosen a_often a_sorted a_risen a_risenWays m_thrown (nI m_told) (nI m_taped) (nI m0_at_2) (nI m_to) (nI m_many) (nI k) m_fewest (nI m_size) mt a_readBits_2) := hD
                    refine lv_if_eq (tgt := 147) hx hb dX9_readsRow_126 (by decide) (fun c126 => ?_) (fun c126 => ?_)
                    ·
                      refine lv_iconst (v := 0) hx hb dX9_readsRow_147 (by decide +kernel) ?_
                      exact my_retZ hx hb hr hlocks (by decide +kernel) hK hS (wl_k_X9_readsRow cI cJ cK m0 a_row a_tape a_number a_read a_readBits a_stands a_parted a_bitsWere a_stood a_chosen a_bestChosen a_often a_sorted a_risen a_risenWays m_thrown (nI m_told) (nI m_taped) (nI m0_at_2) (nI m_to) (nI m_many) (nI k) m_fewest (nI m_size) mt a_readBits_2) hP hD (Or.inr (⟨m0_at_2, k, a_readBits_2, rfl, rfl, (by first | assumption | omega | trivial | decide +kernel), (by first | assumption | omega | trivial | decide +kernel), hR_a_readBits_2, (by first | assumption | omega | trivial | decide +kernel), (by omega), (fun h9 => by omega), (fun h9 => by omega), (by first | (intro h9; exfalso; omega) | (intro h9; subst hra; first | exact ⟨by omega, by assumption, by omega⟩ | (obtain rfl : k = m_readMany := (by omega); exact ⟨by omega, by assumption, by omega⟩)) | omega), (by first | assumption | omega | trivial | decide +kernel)⟩)) dX9_readsRow_148
                    ·
                      exact absurd c126 (by decide +kernel)
          ·
            have d38 : (mt m0_at_2).toInt = (49 : Int) := my_eq c38 rfl (by decide +kernel)
            refine lv_iload_n hx hb dX9_readsRow_41 rfl (lv_at hl 0 rfl) ?_
            refine lv_iload_n hx hb dX9_readsRow_42 rfl (lv_at hl 2 rfl) ?_
            refine lv_if_ne (tgt := 51) hx hb dX9_readsRow_43 (by decide) (fun c43 => ?_) (fun c43 => ?_)
            ·
              have d43 : ((j : Nat) : Int) ≠ (0 : Int) := my_ne c43 (nI_toInt (by omega)) (by decide +kernel)
              refine lv_aload_n hx hb dX9_readsRow_51 rfl (lv_at hl 1 rfl) ?_
              refine va_get (ci := 9) (v := .int (nI m_readMany)) (C := RX9) (T := TX9) (N := 24) hx hb hts hi9 hown hK hP 0 rfl rfl 10 (by decide) fl93 (fun _ h9 => h9) rfl dX9_readsRow_52 ?_
              refine lv_icmp_ge (tgt := 97) hx hb dX9_readsRow_55 (by decide) (fun c55 => ?_) (fun c55 => ?_)
              ·
                have d55 : ((k : Nat) : Int) ≥ ((m_readMany : Nat) : Int) := my_ge c55 (nI_toInt (by omega)) (nI_toInt (by omega))
                have hex := bl_exit (f := mt) (n := m_to) (m := (rmo j m_readMany)) (k := k) (a := m0_at_2) (by first | (left; omega) | (right; exact bitS_no (by omega)))
                have hkb : k = blen mt m_to (rmo j m_readMany) m_at := by omega
                refine lv_iload_n hx hb dX9_readsRow_97 rfl (lv_at hl 2 rfl) ?_
                refine lv_if_ne (tgt := 106) hx hb dX9_readsRow_98 (by decide) (fun c98 => ?_) (fun c98 => ?_)
                ·
                  have d98 : ((j : Nat) : Int) ≠ (0 : Int) := my_ne c98 (nI_toInt (by omega)) (by decide +kernel)
                  refine lv_iload_n hx hb dX9_readsRow_106 rfl (lv_at hl 0 rfl) ?_
                  refine lv_aload_n hx hb dX9_readsRow_107 rfl (lv_at hl 1 rfl) ?_
                  refine va_get (ci := 9) (v := .int (nI m_readMany)) (C := RX9) (T := TX9) (N := 24) hx hb hts hi9 hown hK hP 0 rfl rfl 10 (by decide) fl93 (fun _ h9 => h9) rfl dX9_readsRow_108 ?_
                  refine lv_icmp_ne (tgt := 147) hx hb dX9_readsRow_111 (by decide) (fun c111 => ?_) (fun c111 => ?_)
                  ·
                    have d111 : ((k : Nat) : Int) ≠ ((m_readMany : Nat) : Int) := my_ne c111 (nI_toInt (by omega)) (nI_toInt (by omega))
                    refine lv_iconst (v := 0) hx hb dX9_readsRow_147 (by decide +kernel) ?_
                    exact my_retZ hx hb hr hlocks (by decide +kernel) hK hS (wl_k_X9_readsRow cI cJ cK m0 a_row a_tape a_number a_read a_readBits a_stands a_parted a_bitsWere a_stood a_chosen a_bestChosen a_often a_sorted a_risen a_risenWays m_thrown (nI m_told) (nI m_taped) (nI m0_at_2) (nI m_to) (nI m_many) (nI m_readMany) m_fewest (nI m_size) mt a_readBits_2) hP hD (Or.inr (⟨m0_at_2, m_readMany, a_readBits_2, rfl, rfl, (by first | assumption | omega | trivial | decide +kernel), (by first | assumption | omega | trivial | decide +kernel), hR_a_readBits_2, (by first | assumption | omega | trivial | decide +kernel), (by omega), (fun h9 => by omega), (fun h9 => by omega), (by first | (intro h9; exfalso; omega) | (intro h9; subst hra; first | exact ⟨by omega, by assumption, by omega⟩ | (obtain rfl : k = m_readMany := (by omega); exact ⟨by omega, by assumption, by omega⟩)) | omega), (by first | assumption | omega | trivial | decide +kernel)⟩)) dX9_readsRow_148
                  ·
                    have d111 : ((k : Nat) : Int) = ((m_readMany : Nat) : Int) := my_eq c111 (nI_toInt (by omega)) (nI_toInt (by omega))
                    refine lv_iload_n hx hb dX9_readsRow_114 rfl (lv_at hl 2 rfl) ?_
                    refine lv_bipush (v := 7) hx hb dX9_readsRow_115 (by decide +kernel) ?_
                    refine lv_icmp_ge (tgt := 132) hx hb dX9_readsRow_117 (by decide) (fun c117 => ?_) (fun c117 => ?_)
                    ·
                      have d117 : ((j : Nat) : Int) ≥ (7 : Int) := my_ge c117 (nI_toInt (by omega)) (by decide +kernel)
                      refine lv_aload_n hx hb dX9_readsRow_132 rfl (lv_at hl 1 rfl) ?_
                      refine va_get (ci := 9) (v := .int (nI m0_at_2)) (C := RX9) (T := TX9) (N := 24) hx hb hts hi9 hown hK hP 0 rfl rfl 5 (by decide) fl28 (fun _ h9 => h9) rfl dX9_readsRow_133 ?_
                      refine lv_aload_n hx hb dX9_readsRow_136 rfl (lv_at hl 1 rfl) ?_
                      refine va_get (ci := 9) (v := .int (nI m_to)) (C := RX9) (T := TX9) (N := 24) hx hb hts hi9 hown hK hP 0 rfl rfl 6 (by decide) fl25 (fun _ h9 => h9) rfl dX9_readsRow_137 ?_
                      refine lv_icmp_ne (tgt := 147) hx hb dX9_readsRow_140 (by decide) (fun c140 => ?_) (fun c140 => ?_)
                      ·
                        have d140 : ((m0_at_2 : Nat) : Int) ≠ ((m_to : Nat) : Int) := my_ne c140 (nI_toInt (by omega)) (nI_toInt (by omega))
                        refine lv_iconst (v := 0) hx hb dX9_readsRow_147 (by decide +kernel) ?_
                        exact my_retZ hx hb hr hlocks (by decide +kernel) hK hS (wl_k_X9_readsRow cI cJ cK m0 a_row a_tape a_number a_read a_readBits a_stands a_parted a_bitsWere a_stood a_chosen a_bestChosen a_often a_sorted a_risen a_risenWays m_thrown (nI m_told) (nI m_taped) (nI m0_at_2) (nI m_to) (nI m_many) (nI m_readMany) m_fewest (nI m_size) mt a_readBits_2) hP hD (Or.inr (⟨m0_at_2, m_readMany, a_readBits_2, rfl, rfl, (by first | assumption | omega | trivial | decide +kernel), (by first | assumption | omega | trivial | decide +kernel), hR_a_readBits_2, (by first | assumption | omega | trivial | decide +kernel), (by omega), (fun h9 => by omega), (fun h9 => by omega), (by first | (intro h9; exfalso; omega) | (intro h9; subst hra; first | exact ⟨by omega, by assumption, by omega⟩ | (obtain rfl : k = m_readMany := (by omega); exact ⟨by omega, by assumption, by omega⟩)) | omega), (by first | assumption | omega | trivial | decide +kernel)⟩)) dX9_readsRow_148
                      ·
                        have d140 : ((m0_at_2 : Nat) : Int) = ((m_to : Nat) : Int) := my_eq c140 (nI_toInt (by omega)) (nI_toInt (by omega))
                        refine lv_iconst (v := 1) hx hb dX9_readsRow_143 (by decide +kernel) ?_
                        refine lv_goto (tgt := 148) hx hb dX9_readsRow_144 (by decide) ?_
                        exact my_retZ hx hb hr hlocks (by decide +kernel) hK hS (wl_k_X9_readsRow cI cJ cK m0 a_row a_tape a_number a_read a_readBits a_stands a_parted a_bitsWere a_stood a_chosen a_bestChosen a_often a_sorted a_risen a_risenWays m_thrown (nI m_told) (nI m_taped) (nI m0_at_2) (nI m_to) (nI m_many) (nI m_readMany) m_fewest (nI m_size) mt a_readBits_2) hP hD (Or.inl ⟨m0_at_2, m_readMany, a_readBits_2, rfl, rfl, (by first | assumption | omega | trivial | decide +kernel), (by first | assumption | omega | trivial | decide +kernel), hR_a_readBits_2, (by first | assumption | omega | trivial | decide +kernel), (by omega), (fun h9 => by omega), (by first | (intro h9; exfalso; omega) | (intro h9; subst hra; first | exact ⟨by omega, by assumption, by omega⟩ | (obtain rfl : k = m_readMany := (by omega); exact ⟨by omega, by assumption, by omega⟩)) | omega), (fun h9 => by omega), (by first | assumption | omega | trivial | decide +kernel), (fun i hi => hb1 i (by omega)), hb2⟩) dX9_readsRow_148
                    ·
                      have d117 : ((j : Nat) : Int) < (7 : Int) := my_nge c117 (nI_toInt (by omega)) (by decide +kernel)
                      refine lv_aload_n hx hb dX9_readsRow_120 rfl (lv_at hl 1 rfl) ?_
                      refine lv_bipush (v := 47) hx hb dX9_readsRow_121 (by decide +kernel) ?_
                      refine my_goIS (wc := (wl_k_X9_takes cI cJ cK m0 a_row a_tape a_number a_read a_readBits a_stands a_parted a_bitsWere a_stood a_chosen a_bestChosen a_often a_sorted a_risen a_risenWays m_thrown (nI m_told) (nI m_taped) (nI m0_at_2) (nI m_to) (nI m_many) (nI m_readMany) m_fewest (nI m_size) mt)) hP hD hS hA [0, 1] rfl [some 0, some 1] (by decide +kernel) (my_cV (As := [.int 47]) (rest := []) (ci := 9) (wc := (wl_k_X9_takes cI cJ cK m0 a_row a_tape a_number a_read a_readBits a_stands a_parted a_bitsWere a_stood a_chosen a_bestChosen a_often a_sorted a_risen a_risenWays m_thrown (nI m_told) (nI m_taped) (nI m0_at_2) (nI m_to) (nI m_many) (nI m_readMany) m_fewest (nI m_size) mt)) ⟨hx, hb, hml, hown, hts⟩ (cwV 1 hts gX9_readsRow_X9_takes rfl rfl rfl (by decide +kernel) ⟨Nat.le_of_ble_eq_true rfl, Nat.le_of_ble_eq_true rfl⟩) hN hK hP hD [0, 1] rfl (by decide) rfl 0 rfl rfl rfl rfl hl.1 rfl (Nat.le_of_ble_eq_true rfl) dX9_readsRow_123 ⟨Nat.le_of_ble_eq_true rfl, Nat.le_of_ble_eq_true rfl⟩  ((k_X9_takes l D cI cJ cK m0 a_row a_tape a_number a_read a_readBits a_stands a_parted a_bitsWere a_stood a_chosen a_bestChosen a_often a_sorted a_risen a_risenWays m_thrown m_told m_taped m0_at_2 m_to m_many m_readMany m_fewest m_size mt (47 : Int32) (47 : Int) (by decide +kernel) (by first | assumption | omega | decide +kernel) (by first | assumption | omega | decide +kernel) (by first | assumption | omega | decide +kernel) (by first | assumption | omega | decide +kernel) (by first | assumption | omega | decide +kernel) (by first | assumption | omega | decide +kernel) (by first | assumption | omega | decide +kernel) hR_mt) _)) (fun r u H locs hp hPD hS => ?_)
                      rcases hp with ⟨rfl, rfl, hc_33, he_34⟩ | ⟨rfl, rfl, ho_35⟩
                      ·
                        obtain ⟨hP, hD⟩ := hPD rfl
                        have hP : va_P D vwCl (wl_k_X9_readsRow cI cJ cK m0 a_row a_tape a_number a_read a_readBits a_stands a_parted a_bitsWere a_stood a_chosen a_bestChosen a_often a_sorted a_risen a_risenWays m_thrown (nI m_told) (nI m_taped) (nI (m0_at_2 + 1)) (nI m_to) (nI m_many) (nI m_readMany) m_fewest (nI m_size) mt a_readBits_2) H := hP
                        have hD : va_D A (wl_k_X9_readsRow cI cJ cK m0 a_row a_tape a_number a_read a_readBits a_stands a_parted a_bitsWere a_stood a_chosen a_bestChosen a_often a_sorted a_risen a_risenWays m_thrown (nI m_told) (nI m_taped) (nI (m0_at_2 + 1)) (nI m_to) (nI m_many) (nI m_readMany) m_fewest (nI m_size) mt a_readBits_2) := hD
                        refine lv_if_eq (tgt := 147) hx hb dX9_readsRow_126 (by decide) (fun c126 => ?_) (fun c126 => ?_)
                        ·
                          exact absurd c126 (by decide +kernel)
                        ·
                          refine lv_goto (tgt := 143) hx hb dX9_readsRow_129 (by decide) ?_
                          refine lv_iconst (v := 1) hx hb dX9_readsRow_143 (by decide +kernel) ?_
                          refine lv_goto (tgt := 148) hx hb dX9_readsRow_144 (by decide) ?_
                          exact my_retZ hx hb hr hlocks (by decide +kernel) hK hS (wl_k_X9_readsRow cI cJ cK m0 a_row a_tape a_number a_read a_readBits a_stands a_parted a_bitsWere a_stood a_chosen a_bestChosen a_often a_sorted a_risen a_risenWays m_thrown (nI m_told) (nI m_taped) (nI (m0_at_2 + 1)) (nI m_to) (nI m_many) (nI m_readMany) m_fewest (nI m_size) mt a_readBits_2) hP hD (Or.inl ⟨(m0_at_2 + 1), m_readMany, a_readBits_2, rfl, rfl, (by first | assumption | omega | trivial | decide +kernel), (by first | assumption | omega | trivial | decide +kernel), hR_a_readBits_2, (by first | assumption | omega | trivial | decide +kernel), (by omega), (fun h9 => by omega), (by first | (intro h9; exfalso; omega) | (intro h9; subst hra; first | exact ⟨by omega, by assumption, by omega⟩ | (obtain rfl : k = m_readMany := (by omega); exact ⟨by omega, by assumption, by omega⟩)) | omega), (fun h9 => by omega), (by first | assumption | omega | trivial | decide +kernel), (fun i hi => hb1 i (by omega)), hb2⟩) dX9_readsRow_148
                      ·
                        obtain ⟨hP, hD⟩ := hPD rfl
                        have hP : va_P D vwCl (wl_k_X9_readsRow cI cJ cK m0 a_row a_tape a_number a_read a_readBits a_stands a_parted a_bitsWere a_stood a_chosen a_bestChosen a_often a_sorted a_risen a_risenWays m_thrown (nI m_told) (nI m_taped) (nI m0_at_2) (nI m_to) (nI m_many) (nI m_readMany) m_fewest (nI m_size) mt a_readBits_2) H := hP
                        have hD : va_D A (wl_k_X9_readsRow cI cJ cK m0 a_row a_tape a_number a_read a_readBits a_stands a_parted a_bitsWere a_stood a_chosen a_bestChosen a_often a_sorted a_risen a_risenWays m_thrown (nI m_told) (nI m_taped) (nI m0_at_2) (nI m_to) (nI m_many) (nI m_readMany) m_fewest (nI m_size) mt a_readBits_2) := hD
                        refine lv_if_eq (tgt := 147) hx hb dX9_readsRow_126 (by decide) (fun c126 => ?_) (fun c126 => ?_)
                        ·
                          refine lv_iconst (v := 0) hx hb dX9_readsRow_147 (by decide +kernel) ?_
                          exact my_retZ hx hb hr hlocks (by decide +kernel) hK hS (wl_k_X9_readsRow cI cJ cK m0 a_row a_tape a_number a_read a_readBits a_stands a_parted a_bitsWere a_stood a_chosen a_bestChosen a_often a_sorted a_risen a_risenWays m_thrown (nI m_told) (nI m_taped) (nI m0_at_2) (nI m_to) (nI m_many) (nI m_readMany) m_fewest (nI m_size) mt a_readBits_2) hP hD (Or.inr (⟨m0_at_2, m_readMany, a_readBits_2, rfl, rfl, (by first | assumption | omega | trivial | decide +kernel), (by first | assumption | omega | trivial | decide +kernel), hR_a_readBits_2, (by first | assumption | omega | trivial | decide +kernel), (by omega), (fun h9 => by omega), (fun h9 => by omega), (by first | (intro h9; exfalso; omega) | (intro h9; subst hra; first | exact ⟨by omega, by assumption, by omega⟩ | (obtain rfl : k = m_readMany := (by omega); exact ⟨by omega, by assumption, by omega⟩)) | omega), (by first | assumption | omega | trivial | decide +kernel)⟩)) dX9_readsRow_148
                        ·
                          exact absurd c126 (by decide +kernel)
                ·
                  have d98 : ((j : Nat) : Int) = (0 : Int) := my_eq c98 (nI_toInt (by omega)) (by decide +kernel)
                  refine lv_aload_n hx hb dX9_readsRow_101 rfl (lv_at hl 1 rfl) ?_
                  refine lv_iload_n hx hb dX9_readsRow_102 rfl (lv_at hl 0 rfl) ?_
                  refine va_put (ci := 9) (v := .int (nI k)) (ty := (.int)) (C := RX9) (T := TX9) (N := 24) hx hb hts hi9 tyX9 tyX9_ok nmX9 hown hK hP hD hS 0 rfl rfl 10 (by decide) fl93 (fun _ h9 => h9) rfl (by decide +kernel) rfl rfl (Nat.le_of_ble_eq_true rfl) dX9_readsRow_103 (fun H locs hP hD hS => ?_)
                  have hP : va_P D vwCl (wl_k_X9_readsRow cI cJ cK m0 a_row a_tape a_number a_read a_readBits a_stands a_parted a_bitsWere a_stood a_chosen a_bestChosen a_often a_sorted a_risen a_risenWays m_thrown (nI m_told) (nI m_taped) (nI m0_at_2) (nI m_to) (nI m_many) (nI k) m_fewest (nI m_size) mt a_readBits_2) H := hP
                  have hD : va_D A (wl_k_X9_readsRow cI cJ cK m0 a_row a_tape a_number a_read a_readBits a_stands a_parted a_bitsWere a_stood a_chosen a_bestChosen a_often a_sorted a_risen a_risenWays m_thrown (nI m_told) (nI m_taped) (nI m0_at_2) (nI m_to) (nI m_many) (nI k) m_fewest (nI m_size) mt a_readBits_2) := hD
                  refine lv_iload_n hx hb dX9_readsRow_106 rfl (lv_at hl 0 rfl) ?_
                  refine lv_aload_n hx hb dX9_readsRow_107 rfl (lv_at hl 1 rfl) ?_
                  refine va_get (ci := 9) (v := .int (nI k)) (C := RX9) (T := TX9) (N := 24) hx hb hts hi9 hown hK hP 0 rfl rfl 10 (by decide) fl93 (fun _ h9 => h9) rfl dX9_readsRow_108 ?_
                  refine lv_icmp_ne (tgt := 147) hx hb dX9_readsRow_111 (by decide) (fun c111 => ?_) (fun c111 => ?_)
                  ·
                    have d111 : ((k : Nat) : Int) ≠ ((k : Nat) : Int) := my_ne c111 (nI_toInt (by omega)) (nI_toInt (by omega))
                    refine lv_iconst (v := 0) hx hb dX9_readsRow_147 (by decide +kernel) ?_
                    exact my_retZ hx hb hr hlocks (by decide +kernel) hK hS (wl_k_X9_readsRow cI cJ cK m0 a_row a_tape a_number a_read a_readBits a_stands a_parted a_bitsWere a_stood a_chosen a_bestChosen a_often a_sorted a_risen a_risenWays m_thrown (nI m_told) (nI m_taped) (nI m0_at_2) (nI m_to) (nI m_many) (nI k) m_fewest (nI m_size) mt a_readBits_2) hP hD (Or.inr (⟨m0_at_2, k, a_readBits_2, rfl, rfl, (by first | assumption | omega | trivial | decide +kernel), (by first | assumption | omega | trivial | decide +kernel), hR_a_readBits_2, (by first | assumption | omega | trivial | decide +kernel), (by omega), (fun h9 => by omega), (fun h9 => by omega), (by first | (intro h9; exfalso; omega) | (intro h9; subst hra; first | exact ⟨by omega, by assumption, by omega⟩ | (obtain rfl : k = m_readMany := (by omega); exact ⟨by omega, by assumption, by omega⟩)) | omega), (by first | assumption | omega | trivial | decide +kernel)⟩)) dX9_readsRow_148
                  ·
                    have d111 : ((k : Nat) : Int) = ((k : Nat) : Int) := my_eq c111 (nI_toInt (by omega)) (nI_toInt (by omega))
                    refine lv_iload_n hx hb dX9_readsRow_114 rfl (lv_at hl 2 rfl) ?_
                    refine lv_bipush (v := 7) hx hb dX9_readsRow_115 (by decide +kernel) ?_
                    refine lv_icmp_ge (tgt := 132) hx hb dX9_readsRow_117 (by decide) (fun c117 => ?_) (fun c117 => ?_)
                    ·
                      have d117 : ((j : Nat) : Int) ≥ (7 : Int) := my_ge c117 (nI_toInt (by omega)) (by decide +kernel)
                      refine lv_aload_n hx hb dX9_readsRow_132 rfl (lv_at hl 1 rfl) ?_
                      refine va_get (ci := 9) (v := .int (nI m0_at_2)) (C := RX9) (T := TX9) (N := 24) hx hb hts hi9 hown hK hP 0 rfl rfl 5 (by decide) fl28 (fun _ h9 => h9) rfl dX9_readsRow_133 ?_
                      refine lv_aload_n hx hb dX9_readsRow_136 rfl (lv_at hl 1 rfl) ?_
                      refine va_get (ci := 9) (v := .int (nI m_to)) (C := RX9) (T := TX9) (N := 24) hx hb hts hi9 hown hK hP 0 rfl rfl 6 (by decide) fl25 (fun _ h9 => h9) rfl dX9_readsRow_137 ?_
                      refine lv_icmp_ne (tgt := 147) hx hb dX9_readsRow_140 (by decide) (fun c140 => ?_) (fun c140 => ?_)
                      ·
                        have d140 : ((m0_at_2 : Nat) : Int) ≠ ((m_to : Nat) : Int) := my_ne c140 (nI_toInt (by omega)) (nI_toInt (by omega))
                        refine lv_iconst (v := 0) hx hb dX9_readsRow_147 (by decide +kernel) ?_
                        exact my_retZ hx hb hr hlocks (by decide +kernel) hK hS (wl_k_X9_readsRow cI cJ cK m0 a_row a_tape a_number a_read a_readBits a_stands a_parted a_bitsWere a_stood a_chosen a_bestChosen a_often a_sorted a_risen a_risenWays m_thrown (nI m_told) (nI m_taped) (nI m0_at_2) (nI m_to) (nI m_many) (nI k) m_fewest (nI m_size) mt a_readBits_2) hP hD (Or.inr (⟨m0_at_2, k, a_readBits_2, rfl, rfl, (by first | assumption | omega | trivial | decide +kernel), (by first | assumption | omega | trivial | decide +kernel), hR_a_readBits_2, (by first | assumption | omega | trivial | decide +kernel), (by omega), (fun h9 => by omega), (fun h9 => by omega), (by first | (intro h9; exfalso; omega) | (intro h9; subst hra; first | exact ⟨by omega, by assumption, by omega⟩ | (obtain rfl : k = m_readMany := (by omega); exact ⟨by omega, by assumption, by omega⟩)) | omega), (by first | assumption | omega | trivial | decide +kernel)⟩)) dX9_readsRow_148
                      ·
                        have d140 : ((m0_at_2 : Nat) : Int) = ((m_to : Nat) : Int) := my_eq c140 (nI_toInt (by omega)) (nI_toInt (by omega))
                        refine lv_iconst (v := 1) hx hb dX9_readsRow_143 (by decide +kernel) ?_
                        refine lv_goto (tgt := 148) hx hb dX9_readsRow_144 (by decide) ?_
                        exact my_retZ hx hb hr hlocks (by decide +kernel) hK hS (wl_k_X9_readsRow cI cJ cK m0 a_row a_tape a_number a_read a_readBits a_stands a_parted a_bitsWere a_stood a_chosen a_bestChosen a_often a_sorted a_risen a_risenWays m_thrown (nI m_told) (nI m_taped) (nI m0_at_2) (nI m_to) (nI m_many) (nI k) m_fewest (nI m_size) mt a_readBits_2) hP hD (Or.inl ⟨m0_at_2, k, a_readBits_2, rfl, rfl, (by first | assumption | omega | trivial | decide +kernel), (by first | assumption | omega | trivial | decide +kernel), hR_a_readBits_2, (by first | assumption | omega | trivial | decide +kernel), (by omega), (fun h9 => by omega), (by first | (intro h9; exfalso; omega) | (intro h9; subst hra; first | exact ⟨by omega, by assumption, by omega⟩ | (obtain rfl : k = m_readMany := (by omega); exact ⟨by omega, by assumption, by omega⟩)) | omega), (fun h9 => by omega), (by first | assumption | omega | trivial | decide +kernel), (fun i hi => hb1 i (by omega)), hb2⟩) dX9_readsRow_148
                    ·
                      have d117 : ((j : Nat) : Int) < (7 : Int) := my_nge c117 (nI_toInt (by omega)) (by decide +kernel)
                      refine lv_aload_n hx hb dX9_readsRow_120 rfl (lv_at hl 1 rfl) ?_
                      refine lv_bipush (v := 47) hx hb dX9_readsRow_121 (by decide +kernel) ?_
                      refine my_goIS (wc := (wl_k_X9_takes cI cJ cK m0 a_row a_tape a_number a_read a_readBits a_stands a_parted a_bitsWere a_stood a_chosen a_bestChosen a_often a_sorted a_risen a_risenWays m_thrown (nI m_told) (nI m_taped) (nI m0_at_2) (nI m_to) (nI m_many) (nI k) m_fewest (nI m_size) mt)) hP hD hS hA [0, 1] rfl [some 0, some 1] (by decide +kernel) (my_cV (As := [.int 47]) (rest := []) (ci := 9) (wc := (wl_k_X9_takes cI cJ cK m0 a_row a_tape a_number a_read a_readBits a_stands a_parted a_bitsWere a_stood a_chosen a_bestChosen a_often a_sorted a_risen a_risenWays m_thrown (nI m_told) (nI m_taped) (nI m0_at_2) (nI m_to) (nI m_many) (nI k) m_fewest (nI m_size) mt)) ⟨hx, hb, hml, hown, hts⟩ (cwV 1 hts gX9_readsRow_X9_takes rfl rfl rfl (by decide +kernel) ⟨Nat.le_of_ble_eq_true rfl, Nat.le_of_ble_eq_true rfl⟩) hN hK hP hD [0, 1] rfl (by decide) rfl 0 rfl rfl rfl rfl hl.1 rfl (Nat.le_of_ble_eq_true rfl) dX9_readsRow_123 ⟨Nat.le_of_ble_eq_true rfl, Nat.le_of_ble_eq_true rfl⟩  ((k_X9_takes l D cI cJ cK m0 a_row a_tape a_number a_read a_readBits a_stands a_parted a_bitsWere a_stood a_chosen a_bestChosen a_often a_sorted a_risen a_risenWays m_thrown m_told m_taped m0_at_2 m_to m_many k m_fewest m_size mt (47 : Int32) (47 : Int) (by decide +kernel) (by first | assumption | omega | decide +kernel) (by first | assumption | omega | decide +kernel) (by first | assumption | omega | decide +kernel) (by first | assumption | omega | decide +kernel) (by first | assumption | omega | decide +kernel) (by first | assumption | omega | decide +kernel) (by first | assumption | omega | decide +kernel) hR_mt) _)) (fun r u H locs hp hPD hS => ?_)
                      rcases hp with ⟨rfl, rfl, hc_36, he_37⟩ | ⟨rfl, rfl, ho_38⟩
                      ·
                        obtain ⟨hP, hD⟩ := hPD rfl
                        have hP : va_P D vwCl (wl_k_X9_readsRow cI cJ cK m0 a_row a_tape a_number a_read a_readBits a_stands a_parted a_bitsWere a_stood a_chosen a_bestChosen a_often a_sorted a_risen a_risenWays m_thrown (nI m_told) (nI m_taped) (nI (m0_at_2 + 1)) (nI m_to) (nI m_many) (nI k) m_fewest (nI m_size) mt a_readBits_2) H := hP
                        have hD : va_D A (wl_k_X9_readsRow cI cJ cK m0 a_row a_tape a_number a_read a_readBits a_stands a_parted a_bitsWere a_stood a_chosen a_bestChosen a_often a_sorted a_risen a_risenWays m_thrown (nI m_told) (nI m_taped) (nI (m0_at_2 + 1)) (nI m_to) (nI m_many) (nI k) m_fewest (nI m_size) mt a_readBits_2) := hD
                        refine lv_if_eq (tgt := 147) hx hb dX9_readsRow_126 (by decide) (fun c126 => ?_) (fun c126 => ?_)
                        ·
                          exact absurd c126 (by decide +kernel)
                        ·
                          refine lv_goto (tgt := 143) hx hb dX9_readsRow_129 (by decide) ?_
                          refine lv_iconst (v := 1) hx hb dX9_readsRow_143 (by decide +kernel) ?_
                          refine lv_goto (tgt := 148) hx hb dX9_readsRow_144 (by decide) ?_
                          exact my_retZ hx hb hr hlocks (by decide +kernel) hK hS (wl_k_X9_readsRow cI cJ cK m0 a_row a_tape a_number a_read a_readBits a_stands a_parted a_bitsWere a_stood a_chosen a_bestChosen a_often a_sorted a_risen a_risenWays m_thrown (nI m_told) (nI m_taped) (nI (m0_at_2 + 1)) (nI m_to) (nI m_many) (nI k) m_fewest (nI m_size) mt a_readBits_2) hP hD (Or.inl ⟨(m0_at_2 + 1), k, a_readBits_2, rfl, rfl, (by first | assumption | omega | trivial | decide +kernel), (by first | assumption | omega | trivial | decide +kernel), hR_a_readBits_2, (by first | assumption | omega | trivial | decide +kernel), (by omega), (fun h9 => by omega), (by first | (intro h9; exfalso; omega) | (intro h9; subst hra; first | exact ⟨by omega, by assumption, by omega⟩ | (obtain rfl : k = m_readMany := (by omega); exact ⟨by omega, by assumption, by omega⟩)) | omega), (fun h9 => by omega), (by first | assumption | omega | trivial | decide +kernel), (fun i hi => hb1 i (by omega)), hb2⟩) dX9_readsRow_148
                      ·
                        obtain ⟨hP, hD⟩ := hPD rfl
                        have hP : va_P D vwCl (wl_k_X9_readsRow cI cJ cK m0 a_row a_tape a_number a_read a_readBits a_stands a_parted a_bitsWere a_stood a_chosen a_bestChosen a_often a_sorted a_risen a_risenWays m_thrown (nI m_told) (nI m_taped) (nI m0_at_2) (nI m_to) (nI m_many) (nI k) m_fewest (nI m_size) mt a_readBits_2) H := hP
                        have hD : va_D A (wl_k_X9_readsRow cI cJ cK m0 a_row a_tape a_number a_read a_readBits a_stands a_parted a_bitsWere a_stood a_chosen a_bestChosen a_often a_sorted a_risen a_risenWays m_thrown (nI m_told) (nI m_taped) (nI m0_at_2) (nI m_to) (nI m_many) (nI k) m_fewest (nI m_size) mt a_readBits_2) := hD
                        refine lv_if_eq (tgt := 147) hx hb dX9_readsRow_126 (by decide) (fun c126 => ?_) (fun c126 => ?_)
                        ·
                          refine lv_iconst (v := 0) hx hb dX9_readsRow_147 (by decide +kernel) ?_
                          exact my_retZ hx hb hr hlocks (by decide +kernel) hK hS (wl_k_X9_readsRow cI cJ cK m0 a_row a_tape a_number a_read a_readBits a_stands a_parted a_bitsWere a_stood a_chosen a_bestChosen a_often a_sorted a_risen a_risenWays m_thrown (nI m_told) (nI m_taped) (nI m0_at_2) (nI m_to) (nI m_many) (nI k) m_fewest (nI m_size) mt a_readBits_2) hP hD (Or.inr (⟨m0_at_2, k, a_readBits_2, rfl, rfl, (by first | assumption | omega | trivial | decide +kernel), (by first | assumption | omega | trivial | decide +kernel), hR_a_readBits_2, (by first | assumption | omega | trivial | decide +kernel), (by omega), (fun h9 => by omega), (fun h9 => by omega), (by first | (intro h9; exfalso; omega) | (intro h9; subst hra; first | exact ⟨by omega, by assumption, by omega⟩ | (obtain rfl : k = m_readMany := (by omega); exact ⟨by omega, by assumption, by omega⟩)) | omega), (by first | assumption | omega | trivial | decide +kernel)⟩)) dX9_readsRow_148
                        ·
                          exact absurd c126 (by decide +kernel)
              ·
                have d55 : ((k : Nat) : Int) < ((m_readMany : Nat) : Int) := my_nge c55 (nI_toInt (by omega)) (nI_toInt (by omega))
                refine lv_aload_n hx hb dX9_readsRow_58 rfl (lv_at hl 1 rfl) ?_
                refine va_get (ci := 9) (v := .ref a_readBits) (C := RX9) (T := TX9) (N := 24) hx hb hts hi9 hown hK hP 0 rfl rfl 11 (by decide) fl55 (fun _ h9 => h9) rfl dX9_readsRow_59 ?_
                refine lv_bipush (v := 11) hx hb dX9_readsRow_62 (by decide +kernel) ?_
                refine lv_iload_n hx hb dX9_readsRow_64 rfl (lv_at hl 2 rfl) ?_
                refine lv_imul hx hb dX9_readsRow_65 ?_
                refine my_eqi (y := nI (11 * j)) (my_mulN _ _) ?_
                refine lv_iload_n hx hb dX9_readsRow_66 rfl (lv_at hl 0 rfl) ?_
                refine lv_iadd hx hb dX9_readsRow_67 ?_
                refine my_eqi (y := nI (11 * j + k)) (nI_add _ _) ?_
                refine lv_aload_n hx hb dX9_readsRow_68 rfl (lv_at hl 1 rfl) ?_
                refine va_get (ci := 9) (v := .ref a_tape) (C := RX9) (T := TX9) (N := 24) hx hb hts hi9 hown hK hP 0 rfl rfl 3 (by decide) fl17 (fun _ h9 => h9) rfl dX9_readsRow_69 ?_
                refine lv_aload_n hx hb dX9_readsRow_72 rfl (lv_at hl 1 rfl) ?_
                refine va_get (ci := 9) (v := .int (nI m0_at_2)) (C := RX9) (T := TX9) (N := 24) hx hb hts hi9 hown hK hP 0 rfl rfl 5 (by decide) fl28 (fun _ h9 => h9) rfl dX9_readsRow_73 ?_
                refine va_iald hx hb hK hP 1 0 rfl rfl (vp_in_nI (by omega) (by omega)) dX9_readsRow_76 ?_
                refine my_eqi (y := mt m0_at_2) (congrArg mt (nI_clamp (by omega))) ?_
                have hb_39 := hR_mt m0_at_2
                refine lv_bipush (v := 48) hx hb dX9_readsRow_77 (by decide +kernel) ?_
                refine lv_isub hx hb dX9_readsRow_79 ?_
                refine lv_topi (fun z_40 ez_40 => ?_)
                try have tz_40 : z_40.toInt = (mt m0_at_2).toInt - (48 : Int) := by rw [ez_40]; exact my_subI rfl (by decide +kernel) (by omega) (by omega)
                refine va_iast hx hb hK hP hD hS 2 0 rfl rfl (vp_in_nI (by omega) (by omega)) dX9_readsRow_80 (fun H locs hP hD hS => ?_)
                obtain ⟨g_41, eg_41⟩ : ∃ g : Nat → Int32, g = upd a_readBits_2 (11 * j + k) z_40 := ⟨_, rfl⟩
                have eU : upd a_readBits_2 (nI (11 * j + k) : Int32).toNatClampNeg z_40 = g_41 := by rw [eg_41, show (nI (11 * j + k) : Int32).toNatClampNeg = 11 * j + k from nI_clamp (by omega)]
                rw [eU] at hP hD
                have hR_g_41 : RB 0 1 g_41 := by rw [eg_41]; exact hR_a_readBits_2.upd rfl (by omega) (by omega)
                have hP : va_P D vwCl (wl_k_X9_readsRow cI cJ cK m0 a_row a_tape a_number a_read a_readBits a_stands a_parted a_bitsWere a_stood a_chosen a_bestChosen a_often a_sorted a_risen a_risenWays m_thrown (nI m_told) (nI m_taped) (nI m0_at_2) (nI m_to) (nI m_many) (nI m_readMany) m_fewest (nI m_size) mt g_41) H := hP
                have hD : va_D A (wl_k_X9_readsRow cI cJ cK m0 a_row a_tape a_number a_read a_readBits a_stands a_parted a_bitsWere a_stood a_chosen a_bestChosen a_often a_sorted a_risen a_risenWays m_thrown (nI m_told) (nI m_taped) (nI m0_at_2) (nI m_to) (nI m_many) (nI m_readMany) m_fewest (nI m_size) mt g_41) := hD
                refine lv_aload_n hx hb dX9_readsRow_81 rfl (lv_at hl 1 rfl) ?_
                refine lv_dup hx hb dX9_readsRow_82 rfl ?_
                refine va_get (ci := 9) (v := .int (nI m0_at_2)) (C := RX9) (T := TX9) (N := 24) hx hb hts hi9 hown hK hP 0 rfl rfl 5 (by decide) fl28 (fun _ h9 => h9) rfl dX9_readsRow_83 ?_
                refine lv_iconst (v := 1) hx hb dX9_readsRow_86 (by decide +kernel) ?_
                refine lv_iadd hx hb dX9_readsRow_87 ?_
                refine my_eqi (y := nI (m0_at_2 + 1)) (my_addN m0_at_2 1) ?_
                refine va_put (ci := 9) (v := .int (nI (m0_at_2 + 1))) (ty := (.int)) (C := RX9) (T := TX9) (N := 24) hx hb hts hi9 tyX9 tyX9_ok nmX9 hown hK hP hD hS 0 rfl rfl 5 (by decide) fl28 (fun _ h9 => h9) rfl (by decide +kernel) rfl rfl (Nat.le_of_ble_eq_true rfl) dX9_readsRow_88 (fun H locs hP hD hS => ?_)
                have hP : va_P D vwCl (wl_k_X9_readsRow cI cJ cK m0 a_row a_tape a_number a_read a_readBits a_stands a_parted a_bitsWere a_stood a_chosen a_bestChosen a_often a_sorted a_risen a_risenWays m_thrown (nI m_told) (nI m_taped) (nI (m0_at_2 + 1)) (nI m_to) (nI m_many) (nI m_readMany) m_fewest (nI m_size) mt g_41) H := hP
                have hD : va_D A (wl_k_X9_readsRow cI cJ cK m0 a_row a_tape a_number a_read a_readBits a_stands a_parted a_bitsWere a_stood a_chosen a_bestChosen a_often a_sorted a_risen a_risenWays m_thrown (nI m_told) (nI m_taped) (nI (m0_at_2 + 1)) (nI m_to) (nI m_many) (nI m_readMany) m_fewest (nI m_size) mt g_41) := hD
                refine lv_iinc (v := nI (k + 1)) (lv' := [(2, .int (nI (k + 1))), (0, .ref m0), (1, .int (nI j))]) hx hb dX9_readsRow_91 hl (k := 0) rfl (my_incN k 1 (by decide +kernel)) (by decide) rfl (fun ls hl => ?_)
                refine lv_goto (tgt := 2) hx hb dX9_readsRow_94 (by decide) ?_
                exact ih2  (k + 1) (m0_at_2 + 1) g_41 (by omega) (by first | assumption | omega | decide +kernel) (by first | assumption | omega | decide +kernel) (by first | assumption | omega | decide +kernel) (by first | assumption | omega | decide +kernel) (by have h9 := bl_yes (f := mt) (n := m_to) (m := (rmo j m_readMany)) (k := k) (a := m0_at_2) (by omega) (bitS_iff.mpr ⟨by omega, by omega, by omega⟩); omega) (rb_step (by assumption) (by subst hra; exact bit_val (by assumption) (by omega)) hb1) (ro_step (by assumption) (by omega) hb2) (by first | assumption | omega | decide +kernel) hR_g_41 _ _ ls hP hD hS (lv_sub hl [0, 1, 2] rfl)
            ·
              have d43 : ((j : Nat) : Int) = (0 : Int) := my_eq c43 (nI_toInt (by omega)) (by decide +kernel)
              refine lv_bipush (v := 11) hx hb dX9_readsRow_46 (by decide +kernel) ?_
              refine lv_goto (tgt := 55) hx hb dX9_readsRow_48 (by decide) ?_
              refine lv_icmp_ge (tgt := 97) hx hb dX9_readsRow_55 (by decide) (fun c55 => ?_) (fun c55 => ?_)
              ·
                have d55 : ((k : Nat) : Int) ≥ (11 : Int) := my_ge c55 (nI_toInt (by omega)) (by decide +kernel)
                have hex := bl_exit (f := mt) (n := m_to) (m := (rmo j m_readMany)) (k := k) (a := m0_at_2) (by first | (left; omega) | (right; exact bitS_no (by omega)))
                have hkb : k = blen mt m_to (rmo j m_readMany) m_at := by omega
                refine lv_iload_n hx hb dX9_readsRow_97 rfl (lv_at hl 2 rfl) ?_
                refine lv_if_ne (tgt := 106) hx hb dX9_readsRow_98 (by decide) (fun c98 => ?_) (fun c98 => ?_)
                ·
                  have d98 : ((j : Nat) : Int) ≠ (0 : Int) := my_ne c98 (nI_toInt (by omega)) (by decide +kernel)
                  refine lv_iload_n hx hb dX9_readsRow_106 rfl (lv_at hl 0 rfl) ?_
                  refine lv_aload_n hx hb dX9_readsRow_107 rfl (lv_at hl 1 rfl) ?_
                  refine va_get (ci := 9) (v := .int (nI m_readMany)) (C := RX9) (T := TX9) (N := 24) hx hb hts hi9 hown hK hP 0 rfl rfl 10 (by decide) fl93 (fun _ h9 => h9) rfl dX9_readsRow_108 ?_
                  refine lv_icmp_ne (tgt := 147) hx hb dX9_readsRow_111 (by decide) (fun c111 => ?_) (fun c111 => ?_)
                  ·
                    have d111 : ((k : Nat) : Int) ≠ ((m_readMany : Nat) : Int) := my_ne c111 (nI_toInt (by omega)) (nI_toInt (by omega))
                    refine lv_iconst (v := 0) hx hb dX9_readsRow_147 (by decide +kernel) ?_
                    exact my_retZ hx hb hr hlocks (by decide +kernel) hK hS (wl_k_X9_readsRow cI cJ cK m0 a_row a_tape a_number a_read a_readBits a_stands a_parted a_bitsWere a_stood a_chosen a_bestChosen a_often a_sorted a_risen a_risenWays m_thrown (nI m_told) (nI m_taped) (nI m0_at_2) (nI m_to) (nI m_many) (nI m_readMany) m_fewest (nI m_size) mt a_readBits_2) hP hD (Or.inr (⟨m0_at_2, m_readMany, a_readBits_2, rfl, rfl, (by first | assumption | omega | trivial | decide +kernel), (by first | assumption | omega | trivial | decide +kernel), hR_a_readBits_2, (by first | assumption | omega | trivial | decide +kernel), (by omega), (fun h9 => by omega), (fun h9 => by omega), (by first | (intro h9; exfalso; omega) | (intro h9; subst hra; first | exact ⟨by omega, by assumption, by omega⟩ | (obtain rfl : k = m_readMany := (by omega); exact ⟨by omega, by assumption, by omega⟩)) | omega), (by first | assumption | omega | trivial | decide +kernel)⟩)) dX9_readsRow_148
                  ·
                    have d111 : ((k : Nat) : Int) = ((m_readMany : Nat) : Int) := my_eq c111 (nI_toInt (by omega)) (nI_toInt (by omega))
                    refine lv_iload_n hx hb dX9_readsRow_114 rfl (lv_at hl 2 rfl) ?_
                    refine lv_bipush (v := 7) hx hb dX9_readsRow_115 (by decide +kernel) ?_
                    refine lv_icmp_ge (tgt := 132) hx hb dX9_readsRow_117 (by decide) (fun c117 => ?_) (fun c117 => ?_)
                    ·
                      have d117 : ((j : Nat) : Int) ≥ (7 : Int) := my_ge c117 (nI_toInt (by omega)) (by decide +kernel)
                      refine lv_aload_n hx hb dX9_readsRow_132 rfl (lv_at hl 1 rfl) ?_
                      refine va_get (ci := 9) (v := .int (nI m0_at_2)) (C := RX9) (T := TX9) (N := 24) hx hb hts hi9 hown hK hP 0 rfl rfl 5 (by decide) fl28 (fun _ h9 => h9) rfl dX9_readsRow_133 ?_
                      refine lv_aload_n hx hb dX9_readsRow_136 rfl (lv_at hl 1 rfl) ?_
                      refine va_get (ci := 9) (v := .int (nI m_to)) (C := RX9) (T := TX9) (N := 24) hx hb hts hi9 hown hK hP 0 rfl rfl 6 (by decide) fl25 (fun _ h9 => h9) rfl dX9_readsRow_137 ?_
                      refine lv_icmp_ne (tgt := 147) hx hb dX9_readsRow_140 (by decide) (fun c140 => ?_) (fun c140 => ?_)
                      ·
                        have d140 : ((m0_at_2 : Nat) : Int) ≠ ((m_to : Nat) : Int) := my_ne c140 (nI_toInt (by omega)) (nI_toInt (by omega))
                        refine lv_iconst (v := 0) hx hb dX9_readsRow_147 (by decide +kernel) ?_
                        exact my_retZ hx hb hr hlocks (by decide +kernel) hK hS (wl_k_X9_readsRow cI cJ cK m0 a_row a_tape a_number a_read a_readBits a_stands a_parted a_bitsWere a_stood a_chosen a_bestChosen a_often a_sorted a_risen a_risenWays m_thrown (nI m_told) (nI m_taped) (nI m0_at_2) (nI m_to) (nI m_many) (nI m_readMany) m_fewest (nI m_size) mt a_readBits_2) hP hD (Or.inr (⟨m0_at_2, m_readMany, a_readBits_2, rfl, rfl, (by first | assumption | omega | trivial | decide +kernel), (by first | assumption | omega | trivial | decide +kernel), hR_a_readBits_2, (by first | assumption | omega | trivial | decide +kernel), (by omega), (fun h9 => by omega), (fun h9 => by omega), (by first | (intro h9; exfalso; omega) | (intro h9; subst hra; first | exact ⟨by omega, by assumption, by omega⟩ | (obtain rfl : k = m_readMany := (by omega); exact ⟨by omega, by assumption, by omega⟩)) | omega), (by first | assumption | omega | trivial | decide +kernel)⟩)) dX9_readsRow_148
                      ·
                        have d140 : ((m0_at_2 : Nat) : Int) = ((m_to : Nat) : Int) := my_eq c140 (nI_toInt (by omega)) (nI_toInt (by omega))
                        refine lv_iconst (v := 1) hx hb dX9_readsRow_143 (by decide +kernel) ?_
                        refine lv_goto (tgt := 148) hx hb dX9_readsRow_144 (by decide) ?_
                        exact my_retZ hx hb hr hlocks (by decide +kernel) hK hS (wl_k_X9_readsRow cI cJ cK m0 a_row a_tape a_number a_read a_readBits a_stands a_parted a_bitsWere a_stood a_chosen a_bestChosen a_often a_sorted a_risen a_risenWays m_thrown (nI m_told) (nI m_taped) (nI m0_at_2) (nI m_to) (nI m_many) (nI m_readMany) m_fewest (nI m_size) mt a_readBits_2) hP hD (Or.inl ⟨m0_at_2, m_readMany, a_readBits_2, rfl, rfl, (by first | assumption | omega | trivial | decide +kernel), (by first | assumption | omega | trivial | decide +kernel), hR_a_readBits_2, (by first | assumption | omega | trivial | decide +kernel), (by omega), (fun h9 => by omega), (by first | (intro h9; exfalso; omega) | (intro h9; subst hra; first | exact ⟨by omega, by assumption, by omega⟩ | (obtain rfl : k = m_readMany := (by omega); exact ⟨by omega, by assumption, by omega⟩)) | omega), (fun h9 => by omega), (by first | assumption | omega | trivial | decide +kernel), (fun i hi => hb1 i (by omega)), hb2⟩) dX9_readsRow_148
                    ·
                      have d117 : ((j : Nat) : Int) < (7 : Int) := my_nge c117 (nI_toInt (by omega)) (by decide +kernel)
                      refine lv_aload_n hx hb dX9_readsRow_120 rfl (lv_at hl 1 rfl) ?_
                      refine lv_bipush (v := 47) hx hb dX9_readsRow_121 (by decide +kernel) ?_
                      refine my_goIS (wc := (wl_k_X9_takes cI cJ cK m0 a_row a_tape a_number a_read a_readBits a_stands a_parted a_bitsWere a_stood a_chosen a_bestChosen a_often a_sorted a_risen a_risenWays m_thrown (nI m_told) (nI m_taped) (nI m0_at_2) (nI m_to) (nI m_many) (nI m_readMany) m_fewest (nI m_size) mt)) hP hD hS hA [0, 1] rfl [some 0, some 1] (by decide +kernel) (my_cV (As := [.int 47]) (rest := []) (ci := 9) (wc := (wl_k_X9_takes cI cJ cK m0 a_row a_tape a_number a_read a_readBits a_stands a_parted a_bitsWere a_stood a_chosen a_bestChosen a_often a_sorted a_risen a_risenWays m_thrown (nI m_told) (nI m_taped) (nI m0_at_2) (nI m_to) (nI m_many) (nI m_readMany) m_fewest (nI m_size) mt)) ⟨hx, hb, hml, hown, hts⟩ (cwV 1 hts gX9_readsRow_X9_takes rfl rfl rfl (by decide +kernel) ⟨Nat.le_of_ble_eq_true rfl, Nat.le_of_ble_eq_true rfl⟩) hN hK hP hD [0, 1] rfl (by decide) rfl 0 rfl rfl rfl rfl hl.1 rfl (Nat.le_of_ble_eq_true rfl) dX9_readsRow_123 ⟨Nat.le_of_ble_eq_true rfl, Nat.le_of_ble_eq_true rfl⟩  ((k_X9_takes l D cI cJ cK m0 a_row a_tape a_number a_read a_readBits a_stands a_parted a_bitsWere a_stood a_chosen a_bestChosen a_often a_sorted a_risen a_risenWays m_thrown m_told m_taped m0_at_2 m_to m_many m_readMany m_fewest m_size mt (47 : Int32) (47 : Int) (by decide +kernel) (by first | assumption | omega | decide +kernel) (by first | assumption | omega | decide +kernel) (by first | assumption | omega | decide +kernel) (by first | assumption | omega | decide +kernel) (by first | assumption | omega | decide +kernel) (by first | assumption | omega | decide +kernel) (by first | assumption | omega | decide +kernel) hR_mt) _)) (fun r u H locs hp hPD hS => ?_)
                      rcases hp with ⟨rfl, rfl, hc_42, he_43⟩ | ⟨rfl, rfl, ho_44⟩
                      ·
                        obtain ⟨hP, hD⟩ := hPD rfl
                        have hP : va_P D vwCl (wl_k_X9_readsRow cI cJ cK m0 a_row a_tape a_number a_read a_readBits a_stands a_parted a_bitsWere a_stood a_chosen a_bestChosen a_often a_sorted a_risen a_risenWays m_thrown (nI m_told) (nI m_taped) (nI (m0_at_2 + 1)) (nI m_to) (nI m_many) (nI m_readMany) m_fewest (nI m_size) mt a_readBits_2) H := hP
                        have hD : va_D A (wl_k_X9_readsRow cI cJ cK m0 a_row a_tape a_number a_read a_readBits a_stands a_parted a_bitsWere a_stood a_chosen a_bestChosen a_often a_sorted a_risen a_risenWays m_thrown (nI m_told) (nI m_taped) (nI (m0_at_2 + 1)) (nI m_to) (nI m_many) (nI m_readMany) m_fewest (nI m_size) mt a_readBits_2) := hD
                        refine lv_if_eq (tgt := 147) hx hb dX9_readsRow_126 (by decide) (fun c126 => ?_) (fun c126 => ?_)
                        ·
                          exact absurd c126 (by decide +kernel)
                        ·
                          refine lv_goto (tgt := 143) hx hb dX9_readsRow_129 (by decide) ?_
                          refine lv_iconst (v := 1) hx hb dX9_readsRow_143 (by decide +kernel) ?_
                          refine lv_goto (tgt := 148) hx hb dX9_readsRow_144 (by decide) ?_
                          exact my_retZ hx hb hr hlocks (by decide +kernel) hK hS (wl_k_X9_readsRow cI cJ cK m0 a_row a_tape a_number a_read a_readBits a_stands a_parted a_bitsWere a_stood a_chosen a_bestChosen a_often a_sorted a_risen a_risenWays m_thrown (nI m_told) (nI m_taped) (nI (m0_at_2 + 1)) (nI m_to) (nI m_many) (nI m_readMany) m_fewest (nI m_size) mt a_readBits_2) hP hD (Or.inl ⟨(m0_at_2 + 1), m_readMany, a_readBits_2, rfl, rfl, (by first | assumption | omega | trivial | decide +kernel), (by first | assumption | omega | trivial | decide +kernel), hR_a_readBits_2, (by first | assumption | omega | trivial | decide +kernel), (by omega), (fun h9 => by omega), (by first | (intro h9; exfalso; omega) | (intro h9; subst hra; first | exact ⟨by omega, by assumption, by omega⟩ | (obtain rfl : k = m_readMany := (by omega); exact ⟨by omega, by assumption, by omega⟩)) | omega), (fun h9 => by omega), (by first | assumption | omega | trivial | decide +kernel), (fun i hi => hb1 i (by omega)), hb2⟩) dX9_readsRow_148
                      ·
                        obtain ⟨hP, hD⟩ := hPD rfl
                        have hP : va_P D vwCl (wl_k_X9_readsRow cI cJ cK m0 a_row a_tape a_number a_read a_readBits a_stands a_parted a_bitsWere a_stood a_chosen a_bestChosen a_often a_sorted a_risen a_risenWays m_thrown (nI m_told) (nI m_taped) (nI m0_at_2) (nI m_to) (nI m_many) (nI m_readMany) m_fewest (nI m_size) mt a_readBits_2) H := hP
                        have hD : va_D A (wl_k_X9_readsRow cI cJ cK m0 a_row a_tape a_number a_read a_readBits a_stands a_parted a_bitsWere a_stood a_chosen a_bestChosen a_often a_sorted a_risen a_risenWays m_thrown (nI m_told) (nI m_taped) (nI m0_at_2) (nI m_to) (nI m_many) (nI m_readMany) m_fewest (nI m_size) mt a_readBits_2) := hD
                        refine lv_if_eq (tgt := 147) hx hb dX9_readsRow_126 (by decide) (fun c126 => ?_) (fun c126 => ?_)
                        ·
                          refine lv_iconst (v := 0) hx hb dX9_readsRow_147 (by decide +kernel) ?_
                          exact my_retZ hx hb hr hlocks (by decide +kernel) hK hS (wl_k_X9_readsRow cI cJ cK m0 a_row a_tape a_number a_read a_readBits a_stands a_parted a_bitsWere a_stood a_chosen a_bestChosen a_often a_sorted a_risen a_risenWays m_thrown (nI m_told) (nI m_taped) (nI m0_at_2) (nI m_to) (nI m_many) (nI m_readMany) m_fewest (nI m_size) mt a_readBits_2) hP hD (Or.inr (⟨m0_at_2, m_readMany, a_readBits_2, rfl, rfl, (by first | assumption | omega | trivial | decide +kernel), (by first | assumption | omega | trivial | decide +kernel), hR_a_readBits_2, (by first | assumption | omega | trivial | decide +kernel), (by omega), (fun h9 => by omega), (fun h9 => by omega), (by first | (intro h9; exfalso; omega) | (intro h9; subst hra; first | exact ⟨by omega, by assumption, by omega⟩ | (obtain rfl : k = m_readMany := (by omega); exact ⟨by omega, by assumption, by omega⟩)) | omega), (by first | assumption | omega | trivial | decide +kernel)⟩)) dX9_readsRow_148
                        ·
                          exact absurd c126 (by decide +kernel)
                ·
                  have d98 : ((j : Nat) : Int) = (0 : Int) := my_eq c98 (nI_toInt (by omega)) (by decide +kernel)
                  refine lv_aload_n hx hb dX9_readsRow_101 rfl (lv_at hl 1 rfl) ?_
                  refine lv_iload_n hx hb dX9_readsRow_102 rfl (lv_at hl 0 rfl) ?_
                  refine va_put (ci := 9) (v := .int (nI k)) (ty := (.int)) (C := RX9) (T := TX9) (N := 24) hx hb hts hi9 tyX9 tyX9_ok nmX9 hown hK hP hD hS 0 rfl rfl 10 (by decide) fl93 (fun _ h9 => h9) rfl (by decide +kernel) rfl rfl (Nat.le_of_ble_eq_true rfl) dX9_readsRow_103 (fun H locs hP hD hS => ?_)
                  have hP : va_P D vwCl (wl_k_X9_readsRow cI cJ cK m0 a_row a_tape a_number a_read a_readBits a_stands a_parted a_bitsWere a_stood a_chosen a_bestChosen a_often a_sorted a_risen a_risenWays m_thrown (nI m_told) (nI m_taped) (nI m0_at_2) (nI m_to) (nI m_many) (nI k) m_fewest (nI m_size) mt a_readBits_2) H := hP
                  have hD : va_D A (wl_k_X9_readsRow cI cJ cK m0 a_row a_tape a_number a_read a_readBits a_stands a_parted a_bitsWere a_stood a_chosen a_bestChosen a_often a_sorted a_risen a_risenWays m_thrown (nI m_told) (nI m_taped) (nI m0_at_2) (nI m_to) (nI m_many) (nI k) m_fewest (nI m_size) mt a_readBits_2) := hD
                  refine lv_iload_n hx hb dX9_readsRow_106 rfl (lv_at hl 0 rfl) ?_
                  refine lv_aload_n hx hb dX9_readsRow_107 rfl (lv_at hl 1 rfl) ?_
                  refine va_get (ci := 9) (v := .int (nI k)) (C := RX9) (T := TX9) (N := 24) hx hb hts hi9 hown hK hP 0 rfl rfl 10 (by decide) fl93 (fun _ h9 => h9) rfl dX9_readsRow_108 ?_
                  refine lv_icmp_ne (tgt := 147) hx hb dX9_readsRow_111 (by decide) (fun c111 => ?_) (fun c111 => ?_)
                  ·
                    have d111 : ((k : Nat) : Int) ≠ ((k : Nat) : Int) := my_ne c111 (nI_toInt (by omega)) (nI_toInt (by omega))
                    refine lv_iconst (v := 0) hx hb dX9_readsRow_147 (by decide +kernel) ?_
                    exact my_retZ hx hb hr hlocks (by decide +kernel) hK hS (wl_k_X9_readsRow cI cJ cK m0 a_row a_tape a_number a_read a_readBits a_stands a_parted a_bitsWere a_stood a_chosen a_bestChosen a_often a_sorted a_risen a_risenWays m_thrown (nI m_told) (nI m_taped) (nI m0_at_2) (nI m_to) (nI m_many) (nI k) m_fewest (nI m_size) mt a_readBits_2) hP hD (Or.inr (⟨m0_at_2, k, a_readBits_2, rfl, rfl, (by first | assumption | omega | trivial | decide +kernel), (by first | assumption | omega | trivial | decide +kernel), hR_a_readBits_2, (by first | assumption | omega | trivial | decide +kernel), (by omega), (fun h9 => by omega), (fun h9 => by omega), (by first | (intro h9; exfalso; omega) | (intro h9; subst hra; first | exact ⟨by omega, by assumption, by omega⟩ | (obtain rfl : k = m_readMany := (by omega); exact ⟨by omega, by assumption, by omega⟩)) | omega), (by first | assumption | omega | trivial | decide +kernel)⟩)) dX9_readsRow_148
                  ·
                    have d111 : ((k : Nat) : Int) = ((k : Nat) : Int) := my_eq c111 (nI_toInt (by omega)) (nI_toInt (by omega))
                    refine lv_iload_n hx hb dX9_readsRow_114 rfl (lv_at hl 2 rfl) ?_
                    refine lv_bipush (v := 7) hx hb dX9_readsRow_115 (by decide +kernel) ?_
                    refine lv_icmp_ge (tgt := 132) hx hb dX9_readsRow_117 (by decide) (fun c117 => ?_) (fun c117 => ?_)
                    ·
                      have d117 : ((j : Nat) : Int) ≥ (7 : Int) := my_ge c117 (nI_toInt (by omega)) (by decide +kernel)
                      refine lv_aload_n hx hb dX9_readsRow_132 rfl (lv_at hl 1 rfl) ?_
                      refine va_get (ci := 9) (v := .int (nI m0_at_2)) (C := RX9) (T := TX9) (N := 24) hx hb hts hi9 hown hK hP 0 rfl rfl 5 (by decide) fl28 (fun _ h9 => h9) rfl dX9_readsRow_133 ?_
                      refine lv_aload_n hx hb dX9_readsRow_136 rfl (lv_at hl 1 rfl) ?_
                      refine va_get (ci := 9) (v := .int (nI m_to)) (C := RX9) (T := TX9) (N := 24) hx hb hts hi9 hown hK hP 0 rfl rfl 6 (by decide) fl25 (fun _ h9 => h9) rfl dX9_readsRow_137 ?_
                      refine lv_icmp_ne (tgt := 147) hx hb dX9_readsRow_140 (by decide) (fun c140 => ?_) (fun c140 => ?_)
                      ·
                        have d140 : ((m0_at_2 : Nat) : Int) ≠ ((m_to : Nat) : Int) := my_ne c140 (nI_toInt (by omega)) (nI_toInt (by omega))
                        refine lv_iconst (v := 0) hx hb dX9_readsRow_147 (by decide +kernel) ?_
                        exact my_retZ hx hb hr hlocks (by decide +kernel) hK hS (wl_k_X9_readsRow cI cJ cK m0 a_row a_tape a_number a_read a_readBits a_stands a_parted a_bitsWere a_stood a_chosen a_bestChosen a_often a_sorted a_risen a_risenWays m_thrown (nI m_told) (nI m_taped) (nI m0_at_2) (nI m_to) (nI m_many) (nI k) m_fewest (nI m_size) mt a_readBits_2) hP hD (Or.inr (⟨m0_at_2, k, a_readBits_2, rfl, rfl, (by first | assumption | omega | trivial | decide +kernel), (by first | assumption | omega | trivial | decide +kernel), hR_a_readBits_2, (by first | assumption | omega | trivial | decide +kernel), (by omega), (fun h9 => by omega), (fun h9 => by omega), (by first | (intro h9; exfalso; omega) | (intro h9; subst hra; first | exact ⟨by omega, by assumption, by omega⟩ | (obtain rfl : k = m_readMany := (by omega); exact ⟨by omega, by assumption, by omega⟩)) | omega), (by first | assumption | omega | trivial | decide +kernel)⟩)) dX9_readsRow_148
                      ·
                        have d140 : ((m0_at_2 : Nat) : Int) = ((m_to : Nat) : Int) := my_eq c140 (nI_toInt (by omega)) (nI_toInt (by omega))
                        refine lv_iconst (v := 1) hx hb dX9_readsRow_143 (by decide +kernel) ?_
                        refine lv_goto (tgt := 148) hx hb dX9_readsRow_144 (by decide) ?_
                        exact my_retZ hx hb hr hlocks (by decide +kernel) hK hS (wl_k_X9_readsRow cI cJ cK m0 a_row a_tape a_number a_read a_readBits a_stands a_parted a_bitsWere a_stood a_chosen a_bestChosen a_often a_sorted a_risen a_risenWays m_thrown (nI m_told) (nI m_taped) (nI m0_at_2) (nI m_to) (nI m_many) (nI k) m_fewest (nI m_size) mt a_readBits_2) hP hD (Or.inl ⟨m0_at_2, k, a_readBits_2, rfl, rfl, (by first | assumption | omega | trivial | decide +kernel), (by first | assumption | omega | trivial | decide +kernel), hR_a_readBits_2, (by first | assumption | omega | trivial | decide +kernel), (by omega), (fun h9 => by omega), (by first | (intro h9; exfalso; omega) | (intro h9; subst hra; first | exact ⟨by omega, by assumption, by omega⟩ | (obtain rfl : k = m_readMany := (by omega); exact ⟨by omega, by assumption, by omega⟩)) | omega), (fun h9 => by omega), (by first | assumption | omega | trivial | decide +kernel), (fun i hi => hb1 i (by omega)), hb2⟩) dX9_readsRow_148
                    ·
                      have d117 : ((j : Nat) : Int) < (7 : Int) := my_nge c117 (nI_toInt (by omega)) (by decide +kernel)
                      refine lv_aload_n hx hb dX9_readsRow_120 rfl (lv_at hl 1 rfl) ?_
                      refine lv_bipush (v := 47) hx hb dX9_readsRow_121 (by decide +kernel) ?_
                      refine my_goIS (wc := (wl_k_X9_takes cI cJ cK m0 a_row a_tape a_number a_read a_readBits a_stands a_parted a_bitsWere a_stood a_chosen a_bestChosen a_often a_sorted a_risen a_risenWays m_thrown (nI m_told) (nI m_taped) (nI m0_at_2) (nI m_to) (nI m_many) (nI k) m_fewest (nI m_size) mt)) hP hD hS hA [0, 1] rfl [some 0, some 1] (by decide +kernel) (my_cV (As := [.int 47]) (rest := []) (ci := 9) (wc := (wl_k_X9_takes cI cJ cK m0 a_row a_tape a_number a_read a_readBits a_stands a_parted a_bitsWere a_stood a_chosen a_bestChosen a_often a_sorted a_risen a_risenWays m_thrown (nI m_told) (nI m_taped) (nI m0_at_2) (nI m_to) (nI m_many) (nI k) m_fewest (nI m_size) mt)) ⟨hx, hb, hml, hown, hts⟩ (cwV 1 hts gX9_readsRow_X9_takes rfl rfl rfl (by decide +kernel) ⟨Nat.le_of_ble_eq_true rfl, Nat.le_of_ble_eq_true rfl⟩) hN hK hP hD [0, 1] rfl (by decide) rfl 0 rfl rfl rfl rfl hl.1 rfl (Nat.le_of_ble_eq_true rfl) dX9_readsRow_123 ⟨Nat.le_of_ble_eq_true rfl, Nat.le_of_ble_eq_true rfl⟩  ((k_X9_takes l D cI cJ cK m0 a_row a_tape a_number a_read a_readBits a_stands a_parted a_bitsWere a_stood a_chosen a_bestChosen a_often a_sorted a_risen a_risenWays m_thrown m_told m_taped m0_at_2 m_to m_many k m_fewest m_size mt (47 : Int32) (47 : Int) (by decide +kernel) (by first | assumption | omega | decide +kernel) (by first | assumption | omega | decide +kernel) (by first | assumption | omega | decide +kernel) (by first | assumption | omega | decide +kernel) (by first | assumption | omega | decide +kernel) (by first | assumption | omega | decide +kernel) (by first | assumption | omega | decide +kernel) hR_mt) _)) (fun r u H locs hp hPD hS => ?_)
                      rcases hp with ⟨rfl, rfl, hc_45, he_46⟩ | ⟨rfl, rfl, ho_47⟩
                      ·
                        obtain ⟨hP, hD⟩ := hPD rfl
                        have hP : va_P D vwCl (wl_k_X9_readsRow cI cJ cK m0 a_row a_tape a_number a_read a_readBits a_stands a_parted a_bitsWere a_stood a_chosen a_bestChosen a_often a_sorted a_risen a_risenWays m_thrown (nI m_told) (nI m_taped) (nI (m0_at_2 + 1)) (nI m_to) (nI m_many) (nI k) m_fewest (nI m_size) mt a_readBits_2) H := hP
                        have hD : va_D A (wl_k_X9_readsRow cI cJ cK m0 a_row a_tape a_number a_read a_readBits a_stands a_parted a_bitsWere a_stood a_chosen a_bestChosen a_often a_sorted a_risen a_risenWays m_thrown (nI m_told) (nI m_taped) (nI (m0_at_2 + 1)) (nI m_to) (nI m_many) (nI k) m_fewest (nI m_size) mt a_readBits_2) := hD
                        refine lv_if_eq (tgt := 147) hx hb dX9_readsRow_126 (by decide) (fun c126 => ?_) (fun c126 => ?_)
                        ·
                          exact absurd c126 (by decide +kernel)
                        ·
                          refine lv_goto (tgt := 143) hx hb dX9_readsRow_129 (by decide) ?_
                          refine lv_iconst (v := 1) hx hb dX9_readsRow_143 (by decide +kernel) ?_
                          refine lv_goto (tgt := 148) hx hb dX9_readsRow_144 (by decide) ?_
                          exact my_retZ hx hb hr hlocks (by decide +kernel) hK hS (wl_k_X9_readsRow cI cJ cK m0 a_row a_tape a_number a_read a_readBits a_stands a_parted a_bitsWere a_stood a_chosen a_bestChosen a_often a_sorted a_risen a_risenWays m_thrown (nI m_told) (nI m_taped) (nI (m0_at_2 + 1)) (nI m_to) (nI m_many) (nI k) m_fewest (nI m_size) mt a_readBits_2) hP hD (Or.inl ⟨(m0_at_2 + 1), k, a_readBits_2, rfl, rfl, (by first | assumption | omega | trivial | decide +kernel), (by first | assumption | omega | trivial | decide +kernel), hR_a_readBits_2, (by first | assumption | omega | trivial | decide +kernel), (by omega), (fun h9 => by omega), (by first | (intro h9; exfalso; omega) | (intro h9; subst hra; first | exact ⟨by omega, by assumption, by omega⟩ | (obtain rfl : k = m_readMany := (by omega); exact ⟨by omega, by assumption, by omega⟩)) | omega), (fun h9 => by omega), (by first | assumption | omega | trivial | decide +kernel), (fun i hi => hb1 i (by omega)), hb2⟩) dX9_readsRow_148
                      ·
                        obtain ⟨hP, hD⟩ := hPD rfl
                        have hP : va_P D vwCl (wl_k_X9_readsRow cI cJ cK m0 a_row a_tape a_number a_read a_readBits a_stands a_parted a_bitsWere a_stood a_chosen a_bestChosen a_often a_sorted a_risen a_risenWays m_thrown (nI m_told) (nI m_taped) (nI m0_at_2) (nI m_to) (nI m_many) (nI k) m_fewest (nI m_size) mt a_readBits_2) H := hP
                        have hD : va_D A (wl_k_X9_readsRow cI cJ cK m0 a_row a_tape a_number a_read a_readBits a_stands a_parted a_bitsWere a_stood a_chosen a_bestChosen a_often a_sorted a_risen a_risenWays m_thrown (nI m_told) (nI m_taped) (nI m0_at_2) (nI m_to) (nI m_many) (nI k) m_fewest (nI m_size) mt a_readBits_2) := hD
                        refine lv_if_eq (tgt := 147) hx hb dX9_readsRow_126 (by decide) (fun c126 => ?_) (fun c126 => ?_)
                        ·
                          refine lv_iconst (v := 0) hx hb dX9_readsRow_147 (by decide +kernel) ?_
                          exact my_retZ hx hb hr hlocks (by decide +kernel) hK hS (wl_k_X9_readsRow cI cJ cK m0 a_row a_tape a_number a_read a_readBits a_stands a_parted a_bitsWere a_stood a_chosen a_bestChosen a_often a_sorted a_risen a_risenWays m_thrown (nI m_told) (nI m_taped) (nI m0_at_2) (nI m_to) (nI m_many) (nI k) m_fewest (nI m_size) mt a_readBits_2) hP hD (Or.inr (⟨m0_at_2, k, a_readBits_2, rfl, rfl, (by first | assumption | omega | trivial | decide +kernel), (by first | assumption | omega | trivial | decide +kernel), hR_a_readBits_2, (by first | assumption | omega | trivial | decide +kernel), (by omega), (fun h9 => by omega), (fun h9 => by omega), (by first | (intro h9; exfalso; omega) | (intro h9; subst hra; first | exact ⟨by omega, by assumption, by omega⟩ | (obtain rfl : k = m_readMany := (by omega); exact ⟨by omega, by assumption, by omega⟩)) | omega), (by first | assumption | omega | trivial | decide +kernel)⟩)) dX9_readsRow_148
                        ·
                          exact absurd c126 (by decide +kernel)
              ·
                have d55 : ((k : Nat) : Int) < (11 : Int) := my_nge c55 (nI_toInt (by omega)) (by decide +kernel)
                refine lv_aload_n hx hb dX9_readsRow_58 rfl (lv_at hl 1 rfl) ?_
                refine va_get (ci := 9) (v := .ref a_readBits) (C := RX9) (T := TX9) (N := 24) hx hb hts hi9 hown hK hP 0 rfl rfl 11 (by decide) fl55 (fun _ h9 => h9) rfl dX9_readsRow_59 ?_
                refine lv_bipush (v := 11) hx hb dX9_readsRow_62 (by decide +kernel) ?_
                refine lv_iload_n hx hb dX9_readsRow_64 rfl (lv_at hl 2 rfl) ?_
                refine lv_imul hx hb dX9_readsRow_65 ?_
                refine my_eqi (y := nI (11 * j)) (my_mulN _ _) ?_
                refine lv_iload_n hx hb dX9_readsRow_66 rfl (lv_at hl 0 rfl) ?_
                refine lv_iadd hx hb dX9_readsRow_67 ?_
                refine my_eqi (y := nI (11 * j + k)) (nI_add _ _) ?_
                refine lv_aload_n hx hb dX9_readsRow_68 rfl (lv_at hl 1 rfl) ?_
                refine va_get (ci := 9) (v := .ref a_tape) (C := RX9) (T := TX9) (N := 24) hx hb hts hi9 hown hK hP 0 rfl rfl 3 (by decide) fl17 (fun _ h9 => h9) rfl dX9_readsRow_69 ?_
                refine lv_aload_n hx hb dX9_readsRow_72 rfl (lv_at hl 1 rfl) ?_
                refine va_get (ci := 9) (v := .int (nI m0_at_2)) (C := RX9) (T := TX9) (N := 24) hx hb hts hi9 hown hK hP 0 rfl rfl 5 (by decide) fl28 (fun _ h9 => h9) rfl dX9_readsRow_73 ?_
                refine va_iald hx hb hK hP 1 0 rfl rfl (vp_in_nI (by omega) (by omega)) dX9_readsRow_76 ?_
                refine my_eqi (y := mt m0_at_2) (congrArg mt (nI_clamp (by omega))) ?_
                have hb_48 := hR_mt m0_at_2
                refine lv_bipush (v := 48) hx hb dX9_readsRow_77 (by decide +kernel) ?_
                refine lv_isub hx hb dX9_readsRow_79 ?_
                refine lv_topi (fun z_49 ez_49 => ?_)
                try have tz_49 : z_49.toInt = (mt m0_at_2).toInt - (48 : Int) := by rw [ez_49]; exact my_subI rfl (by decide +kernel) (by omega) (by omega)
                refine va_iast hx hb hK hP hD hS 2 0 rfl rfl (vp_in_nI (by omega) (by omega)) dX9_readsRow_80 (fun H locs hP hD hS => ?_)
                obtain ⟨g_50, eg_50⟩ : ∃ g : Nat → Int32, g = upd a_readBits_2 (11 * j + k) z_49 := ⟨_, rfl⟩
                have eU : upd a_readBits_2 (nI (11 * j + k) : Int32).toNatClampNeg z_49 = g_50 := by rw [eg_50, show (nI (11 * j + k) : Int32).toNatClampNeg = 11 * j + k from nI_clamp (by omega)]
                rw [eU] at hP hD
                have hR_g_50 : RB 0 1 g_50 := by rw [eg_50]; exact hR_a_readBits_2.upd rfl (by omega) (by omega)
                have hP : va_P D vwCl (wl_k_X9_readsRow cI cJ cK m0 a_row a_tape a_number a_read a_readBits a_stands a_parted a_bitsWere a_stood a_chosen a_bestChosen a_often a_sorted a_risen a_risenWays m_thrown (nI m_told) (nI m_taped) (nI m0_at_2) (nI m_to) (nI m_many) (nI m_readMany) m_fewest (nI m_size) mt g_50) H := hP
                have hD : va_D A (wl_k_X9_readsRow cI cJ cK m0 a_row a_tape a_number a_read a_readBits a_stands a_parted a_bitsWere a_stood a_chosen a_bestChosen a_often a_sorted a_risen a_risenWays m_thrown (nI m_told) (nI m_taped) (nI m0_at_2) (nI m_to) (nI m_many) (nI m_readMany) m_fewest (nI m_size) mt g_50) := hD
                refine lv_aload_n hx hb dX9_readsRow_81 rfl (lv_at hl 1 rfl) ?_
                refine lv_dup hx hb dX9_readsRow_82 rfl ?_
                refine va_get (ci := 9) (v := .int (nI m0_at_2)) (C := RX9) (T := TX9) (N := 24) hx hb hts hi9 hown hK hP 0 rfl rfl 5 (by decide) fl28 (fun _ h9 => h9) rfl dX9_readsRow_83 ?_
                refine lv_iconst (v := 1) hx hb dX9_readsRow_86 (by decide +kernel) ?_
                refine lv_iadd hx hb dX9_readsRow_87 ?_
                refine my_eqi (y := nI (m0_at_2 + 1)) (my_addN m0_at_2 1) ?_
                refine va_put (ci := 9) (v := .int (nI (m0_at_2 + 1))) (ty := (.int)) (C := RX9) (T := TX9) (N := 24) hx hb hts hi9 tyX9 tyX9_ok nmX9 hown hK hP hD hS 0 rfl rfl 5 (by decide) fl28 (fun _ h9 => h9) rfl (by decide +kernel) rfl rfl (Nat.le_of_ble_eq_true rfl) dX9_readsRow_88 (fun H locs hP hD hS => ?_)
                have hP : va_P D vwCl (wl_k_X9_readsRow cI cJ cK m0 a_row a_tape a_number a_read a_readBits a_stands a_parted a_bitsWere a_stood a_chosen a_bestChosen a_often a_sorted a_risen a_risenWays m_thrown (nI m_told) (nI m_taped) (nI (m0_at_2 + 1)) (nI m_to) (nI m_many) (nI m_readMany) m_fewest (nI m_size) mt g_50) H := hP
                have hD : va_D A (wl_k_X9_readsRow cI cJ cK m0 a_row a_tape a_number a_read a_readBits a_stands a_parted a_bitsWere a_stood a_chosen a_bestChosen a_often a_sorted a_risen a_risenWays m_thrown (nI m_told) (nI m_taped) (nI (m0_at_2 + 1)) (nI m_to) (nI m_many) (nI m_readMany) m_fewest (nI m_size) mt g_50) := hD
                refine lv_iinc (v := nI (k + 1)) (lv' := [(2, .int (nI (k + 1))), (0, .ref m0), (1, .int (nI j))]) hx hb dX9_readsRow_91 hl (k := 0) rfl (my_incN k 1 (by decide +kernel)) (by decide) rfl (fun ls hl => ?_)
                refine lv_goto (tgt := 2) hx hb dX9_readsRow_94 (by decide) ?_
                exact ih2  (k + 1) (m0_at_2 + 1) g_50 (by omega) (by first | assumption | omega | decide +kernel) (by first | assumption | omega | decide +kernel) (by first | assumption | omega | decide +kernel) (by first | assumption | omega | decide +kernel) (by have h9 := bl_yes (f := mt) (n := m_to) (m := (rmo j m_readMany)) (k := k) (a := m0_at_2) (by omega) (bitS_iff.mpr ⟨by omega, by omega, by omega⟩); omega) (rb_step (by assumption) (by subst hra; exact bit_val (by assumption) (by omega)) hb1) (ro_step (by assumption) (by omega) hb2) (by first | assumption | omega | decide +kernel) hR_g_50 _ _ ls hP hD hS (lv_sub hl [0, 1, 2] rfl)
  exact loop2 ((11 - 0) + 1) 0 m_at mb (Nat.lt_succ_self _) (by first | assumption | omega | decide +kernel) (by first | assumption | omega | decide +kernel) (by first | assumption | omega | decide +kernel) (by first | assumption | omega | decide +kernel) ((Nat.zero_add _).symm) (fun i h => absurd h (Nat.not_lt_zero i)) (fun q _ => rfl) (by first | assumption | omega | decide +kernel) hR_mb _ _ ls hP hD hS (lv_sub hl [0, 1, 2] rfl)
