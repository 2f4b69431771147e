abbrev wl_k_X9_planes (cI cJ cK : ClassId) (m0 : Nat) (a_row : Nat) (a_tape : Nat) (a_number : Nat) (a_read : Nat) (a_readBits : Nat) (a_stands : Nat) (a_parted : Nat) (a_bitsWere : Nat) (a_stood : Nat) (a_chosen : Nat) (a_bestChosen : Nat) (a_often : Nat) (a_sorted : Nat) (a_risen : Nat) (a_risenWays : Nat) (v0_ : Int32) (v1_ : Int32) (v2_ : Int32) (v3_ : Int32) (v4_ : Int32) (v5_ : Int32) (v6_ : Int32) (v7_ : Int32) (v8_ : Int32) (v9_ : Nat → Int32) (v10_ : Nat → Int32) (v11_ : Nat → Int32) (v12_ : Nat → Int32) : va_W := [(m0, .inr (9, [.int v0_, .int v1_, .ref a_row, .ref a_tape, .int v2_, .int v3_, .int v4_, .int v5_, .ref a_number, .ref a_read, .int v6_, .ref a_readBits, .ref a_stands, .ref a_parted, .ref a_bitsWere, .ref a_stood, .ref a_chosen, .ref a_bestChosen, .int v7_, .ref a_often, .ref a_sorted, .int v8_, .ref a_risen, .ref a_risenWays])), (a_tape, .inl (cI, 100, .inl v9_)), (a_readBits, .inl (cI, 88, .inl v10_)), (a_read, .inl (cI, 64, .inl v11_)), (a_number, .inl (cI, 64, .inl v12_))]
set_option maxHeartbeats 4000000 in
set_option maxRecDepth 100000 in
theorem k_X9_planes (l : Launch) (D : va_G) (cI cJ cK : ClassId) (m0 : Nat) (a_row : Nat) (a_tape : Nat) (a_number : Nat) (a_read : Nat) (a_readBits : Nat) (a_stands : Nat) (a_parted : Nat) (a_bitsWere : Nat) (a_stood : Nat) (a_chosen : Nat) (a_bestChosen : Nat) (a_often : Nat) (a_sorted : Nat) (a_risen : Nat) (a_risenWays : Nat) (m_thrown : Int32) (m_told : Nat) (m_taped : Nat) (m_at : Nat) (m_to : Nat) (m_many : Nat) (m_readMany : Nat) (m_fewest : Int32) (m_size : Nat) (mt : Nat → Int32) (mb : Nat → Int32) (md : Nat → Int32) (mn : Nat → Int32) (hz_m_told : m_told ≤ 64) (hz_m_taped : m_taped ≤ 100) (hz_m_at : m_at ≤ 100) (hz_m_to : m_to ≤ 100) (hz_m_many : m_many ≤ 64) (hz_m_readMany : m_readMany ≤ 64) (hz_m_size : m_size ≤ 64) (hR_mt : RB 0 255 mt) (hR_mb : RB 0 1 mb) (hR_md : RB 0 255 md) (hR_mn : RB 0 255 mn) : ctI l yX9_planes wsX9_planes ({ frames := 3, cells := 0, slots := 0, locals := 180 } : Room) D (tyIJ cI cJ cK) [.ref m0] (wl_k_X9_planes cI cJ cK m0 a_row a_tape a_number a_read a_readBits a_stands a_parted a_bitsWere a_stood a_chosen a_bestChosen a_often a_sorted a_risen a_risenWays m_thrown (nI m_told) (nI m_taped) (nI m_at) (nI m_to) (nI m_many) (nI m_readMany) m_fewest (nI m_size) mt mb md mn) (fun (r : Int32) (u : va_W) => (∃ (m_thrown' : Int32) (m_taped' : Nat) (m_at' : Nat) (m_to' : Nat) (m_many' : Nat) (m_readMany' : Nat) (mb' : Nat → Int32) (md' : Nat → Int32) (mn' : Nat → Int32), u = (wl_k_X9_planes cI cJ cK m0 a_row a_tape a_number a_read a_readBits a_stands a_parted a_bitsWere a_stood a_chosen a_bestChosen a_often a_sorted a_risen a_risenWays m_thrown' (nI m_told) (nI m_taped') (nI m_at') (nI m_to') (nI m_many') (nI m_readMany') m_fewest (nI m_size) mt mb' md' mn') ∧ r = nI m_many' ∧ m_taped' ≤ 100 ∧ m_at' ≤ 100 ∧ m_to' ≤ 100 ∧ m_many' ≤ 64 ∧ m_readMany' ≤ 64 ∧ RB 0 1 mb' ∧ RB 0 255 md' ∧ RB 0 255 mn' ∧ m_taped' = 0 ∧ plOk mt m_taped ∧ m_many' = plW mt m_taped ∧ (∀ j, j < m_many' → mn' j = nI (vlN (plB mt m_taped (plW mt m_taped)) (plW mt m_taped) 8 j))) ∨ (∃ (m_thrown' : Int32) (m_taped' : Nat) (m_at' : Nat) (m_to' : Nat) (m_readMany' : Nat) (mb' : Nat → Int32), u = (wl_k_X9_planes cI cJ cK m0 a_row a_tape a_number a_read a_readBits a_stands a_parted a_bitsWere a_stood a_chosen a_bestChosen a_often a_sorted a_risen a_risenWays m_thrown' (nI m_told) (nI m_taped') (nI m_at') (nI m_to') (nI m_many) (nI m_readMany') m_fewest (nI m_size) mt mb' md mn) ∧ m_taped' ≤ 100 ∧ m_at' ≤ 100 ∧ m_to' ≤ 100 ∧ m_readMany' ≤ 64 ∧ RB 0 1 mb' ∧ m_taped' = 0 ∧ (∃ e, plErr mt m_taped e ∧ r.toInt = -1 - (e : Int)))) := by
  refine ctI.of (cc := cX9_planes) (maxL := 9) (ret := (some .int)) (by decide) rfl (Nat.le_of_ble_eq_true rfl) ?_
  intro p e s m below meth c ls A hx hb hr hts hown hml hlocks hname hA hK hN hP hD hS hl
  have hl : lv_has ls 9 [(0, .ref m0)] := hl
  have hown : s.vm.findClass RX9 = some m.cls := hown
  have hi9 : ∀ w ∈ u_ws RX9 TX9 24, w ∈ wsX9_planes := by decide +kernel
  have fl1 := hts (.fieldLink RX9 1 "PlaneColumnModel" "thrown" "I") (by decide +kernel)
  have fl28 := hts (.fieldLink RX9 28 "PlaneColumnModel" "at" "I") (by decide +kernel)
  have fl52 := hts (.fieldLink RX9 52 "PlaneColumnModel" "read" "[I") (by decide +kernel)
  have fl55 := hts (.fieldLink RX9 55 "PlaneColumnModel" "readBits" "[I") (by decide +kernel)
  have fl88 := hts (.fieldLink RX9 88 "PlaneColumnModel" "many" "I") (by decide +kernel)
  have fl93 := hts (.fieldLink RX9 93 "PlaneColumnModel" "readMany" "I") (by decide +kernel)
  refine lv_aload_n hx hb dX9_planes_0 rfl (lv_at hl 0 rfl) ?_
  refine lv_iconst (v := 0) hx hb dX9_planes_1 (by decide +kernel) ?_
  refine va_put (ci := 9) (v := .int 0) (ty := (.int)) (C := RX9) (T := TX9) (N := 24) hx hb hts hi9 tyX9 tyX9_ok nmX9 hown hK hP hD hS 0 rfl rfl 0 (by decide) fl1 (fun _ h9 => h9) rfl (by decide +kernel) rfl rfl (Nat.le_of_ble_eq_true rfl) dX9_planes_2 (fun H locs hP hD hS => ?_)
  have hP : va_P D vwCl (wl_k_X9_planes cI cJ cK m0 a_row a_tape a_number a_read a_readBits a_stands a_parted a_bitsWere a_stood a_chosen a_bestChosen a_often a_sorted a_risen a_risenWays 0 (nI m_told) (nI m_taped) (nI m_at) (nI m_to) (nI m_many) (nI m_readMany) m_fewest (nI m_size) mt mb md mn) H := hP
  have hD : va_D A (wl_k_X9_planes cI cJ cK m0 a_row a_tape a_number a_read a_readBits a_stands a_parted a_bitsWere a_stood a_chosen a_bestChosen a_often a_sorted a_risen a_risenWays 0 (nI m_told) (nI m_taped) (nI m_at) (nI m_to) (nI m_many) (nI m_readMany) m_fewest (nI m_size) mt mb md mn) := hD
  refine lv_aload_n hx hb dX9_planes_5 rfl (lv_at hl 0 rfl) ?_
  refine my_goVS (wc := (wl_k_X9_reads cI cJ cK m0 a_row a_tape a_number a_read a_readBits a_stands a_parted a_bitsWere a_stood a_chosen a_bestChosen a_often a_sorted a_risen a_risenWays 0 (nI m_told) (nI m_taped) (nI m_at) (nI m_to) (nI m_many) (nI m_readMany) m_fewest (nI m_size))) hP hD hS hA [0] rfl [some 0] (by decide +kernel) (my_cV (As := []) (rest := []) (ci := 9) (wc := (wl_k_X9_reads cI cJ cK m0 a_row a_tape a_number a_read a_readBits a_stands a_parted a_bitsWere a_stood a_chosen a_bestChosen a_often a_sorted a_risen a_risenWays 0 (nI m_told) (nI m_taped) (nI m_at) (nI m_to) (nI m_many) (nI m_readMany) m_fewest (nI m_size))) ⟨hx, hb, hml, hown, hts⟩ (cwV 0 hts gX9_planes_X9_reads rfl rfl rfl (by decide +kernel) ⟨Nat.le_of_ble_eq_true rfl, Nat.le_of_ble_eq_true rfl⟩) hN hK hP hD [0] rfl (by decide) rfl 0 rfl rfl rfl rfl hl.1 rfl (Nat.le_of_ble_eq_true rfl) dX9_planes_6 ⟨Nat.le_of_ble_eq_true rfl, Nat.le_of_ble_eq_true rfl⟩  ((k_X9_reads l D cI cJ cK m0 a_row a_tape a_number a_read a_readBits a_stands a_parted a_bitsWere a_stood a_chosen a_bestChosen a_often a_sorted a_risen a_risenWays (0 : Int32) m_told m_taped m_at m_to m_many m_readMany m_fewest m_size (by first | assumption | omega | decide +kernel) (by first | assumption | omega | decide +kernel) (by first | assumption | omega | decide +kernel) (by first | assumption | omega | decide +kernel) (by first | assumption | omega | decide +kernel) (by first | assumption | omega | decide +kernel) (by first | assumption | omega | decide +kernel)) _)) (fun u H locs hp hPD hS => ?_)
  obtain rfl := hp
  obtain ⟨hP, hD⟩ := hPD rfl
  have hP : va_P D vwCl (wl_k_X9_planes cI cJ cK m0 a_row a_tape a_number a_read a_readBits a_stands a_parted a_bitsWere a_stood a_chosen a_bestChosen a_often a_sorted a_risen a_risenWays 0 (nI m_told) 0 0 (nI m_taped) (nI m_many) (nI m_readMany) m_fewest (nI m_size) mt mb md mn) H := hP
  have hD : va_D A (wl_k_X9_planes cI cJ cK m0 a_row a_tape a_number a_read a_readBits a_stands a_parted a_bitsWere a_stood a_chosen a_bestChosen a_often a_sorted a_risen a_risenWays 0 (nI m_told) 0 0 (nI m_taped) (nI m_many) (nI m_readMany) m_fewest (nI m_size) mt mb md mn) := hD
  refine lv_aload_n hx hb dX9_planes_9 rfl (lv_at hl 0 rfl) ?_
  refine lv_iconst (v := 0) hx hb dX9_planes_10 (by decide +kernel) ?_
  refine va_put (ci := 9) (v := .int 0) (ty := (.int)) (C := RX9) (T := TX9) (N := 24) hx hb hts hi9 tyX9 tyX9_ok nmX9 hown hK hP hD hS 0 rfl rfl 10 (by decide) fl93 (fun _ h9 => h9) rfl (by decide +kernel) rfl rfl (Nat.le_of_ble_eq_true rfl) dX9_planes_11 (fun H locs hP hD hS => ?_)
  have hP : va_P D vwCl (wl_k_X9_planes cI cJ cK m0 a_row a_tape a_number a_read a_readBits a_stands a_parted a_bitsWere a_stood a_chosen a_bestChosen a_often a_sorted a_risen a_risenWays 0 (nI m_told) 0 0 (nI m_taped) (nI m_many) 0 m_fewest (nI m_size) mt mb md mn) H := hP
  have hD : va_D A (wl_k_X9_planes cI cJ cK m0 a_row a_tape a_number a_read a_readBits a_stands a_parted a_bitsWere a_stood a_chosen a_bestChosen a_often a_sorted a_risen a_risenWays 0 (nI m_told) 0 0 (nI m_taped) (nI m_many) 0 m_fewest (nI m_size) mt mb md mn) := hD
  refine lv_iconst (v := 0) hx hb dX9_planes_14 (by decide +kernel) ?_
  refine lv_istore_n (lv' := [(1, .int 0), (0, .ref m0)]) hx hb dX9_planes_15 rfl hl (by decide) rfl (fun ls hl => ?_)
  have loop16 : ∀ (n9 : Nat) (k : Nat) (m0_at_16 : Nat) (m0_readMany_16 : Nat) (a_readBits_16 : Nat → Int32), 8 - k < n9 → (k ≤ 8) → (m0_readMany_16 ≤ 11) → (m0_at_16 ≤ m_taped) → (k < 8 → m0_at_16 = plA (plW mt m_taped) k) → (k = 0 ∨ m0_readMany_16 = plW mt m_taped) → (∀ q, q < k → rowOk mt m_taped (plW mt m_taped) q) → (∀ q, q < k → ∀ i, i < m0_readMany_16 → a_readBits_16 (11 * q + i) = nI (bN ((plB mt m_taped (plW mt m_taped)) q i))) → (m0_at_16 ≤ 100) → (m0_readMany_16 ≤ 64) → (RB 0 1 a_readBits_16) → ∀ (H : Heap) (locs : List Loc) (ls : Array Slot), va_P D vwCl (wl_k_X9_planes cI cJ cK m0 a_row a_tape a_number a_read a_readBits a_stands a_parted a_bitsWere a_stood a_chosen a_bestChosen a_often a_sorted a_risen a_risenWays 0 (nI m_told) 0 (nI m0_at_16) (nI m_taped) (nI m_many) (nI m0_readMany_16) m_fewest (nI m_size) mt a_readBits_16 md mn) H → va_D A (wl_k_X9_planes cI cJ cK m0 a_row a_tape a_number a_read a_readBits a_stands a_parted a_bitsWere a_stood a_chosen a_bestChosen a_often a_sorted a_risen a_risenWays 0 (nI m_told) 0 (nI m0_at_16) (nI m_taped) (nI m_many) (nI m0_readMany_16) m_fewest (nI m_size) mt a_readBits_16 md mn) → va_S A s.heap H locs → lv_has ls 9 [(1, .int (nI k)), (0, .ref m0)] → W p l e ({ frames := 3, cells := 0, slots := 0, locals := 180 } : Room) s m [.ref m0].toArray below meth c H locs 0 0 (MQ below (va_Qi (fun (r : Int32) (u : va_W) => (∃ (m_thrown' : Int32) (m_taped' : Nat) (m_at' : Nat) (m_to' : Nat) (m_many' : Nat) (m_readMany' : Nat) (mb' : Nat → Int32) (md' : Nat → Int32) (mn' : Nat → Int32), u = (wl_k_X9_planes cI cJ cK m0 a_row a_tape a_number a_read a_readBits a_stands a_parted a_bitsWere a_stood a_chosen a_bestChosen a_often a_sorted a_risen a_risenWays m_thrown' (nI m_told) (nI m_taped') (nI m_at') (nI m_to') (nI m_many') (nI m_readMany') m_fewest (nI m_size) mt mb' md' mn') ∧ r = nI m_many' ∧ m_taped' ≤ 100 ∧ m_at' ≤ 100 ∧ m_to' ≤ 100 ∧ m_many' ≤ 64 ∧ m_readMany' ≤ 64 ∧ RB 0 1 mb' ∧ RB 0 255 md' ∧ RB 0 255 mn' ∧ m_taped' = 0 ∧ plOk mt m_taped ∧ m_many' = plW mt m_taped ∧ (∀ j, j < m_many' → mn' j = nI (vlN (plB mt m_taped (plW mt m_taped)) (plW mt m_taped) 8 j))) ∨ (∃ (m_thrown' : Int32) (m_taped' : Nat) (m_at' : Nat) (m_to' : Nat) (m_readMany' : Nat) (mb' : Nat → Int32), u = (wl_k_X9_planes cI cJ cK m0 a_row a_tape a_number a_read a_readBits a_stands a_parted a_bitsWere a_stood a_chosen a_bestChosen a_often a_sorted a_risen a_risenWays m_thrown' (nI m_told) (nI m_taped') (nI m_at') (nI m_to') (nI m_many) (nI m_readMany') m_fewest (nI m_size) mt mb' md mn) ∧ m_taped' ≤ 100 ∧ m_at' ≤ 100 ∧ m_to' ≤ 100 ∧ m_readMany' ≤ 64 ∧ RB 0 1 mb' ∧ m_taped' = 0 ∧ (∃ e, plErr mt m_taped e ∧ r.toInt = -1 - (e : Int)))) (my_B D (tyIJ cI cJ cK) A) A) [.ref m0].toArray s 0 0 A) (F0 m 16 ls []) := by
    intro n9
    induction n9 with
    | zero =>
      intro k m0_at_16 m0_readMany_16 a_readBits_16 hn9
      exact absurd hn9 (Nat.not_lt_zero _)
    | succ n9 ih16 =>
      intro k m0_at_16 m0_readMany_16 a_readBits_16 hn9 hk_k hm hat hpA hQ hOk hbB hz_m0_at_16 hz_m0_readMany_16 hR_a_readBits_16 H locs ls hP hD hS hl
      refine lv_iload_n hx hb dX9_planes_16 rfl (lv_at hl 0 rfl) ?_
      refine lv_bipush (v := 8) hx hb dX9_planes_17 (by decide +kernel) ?_
      refine lv_icmp_ge (tgt := 43) hx hb dX9_planes_19 (by decide) (fun c19 => ?_) (fun c19 => ?_)
      ·
        have d19 : ((k : Nat) : Int) ≥ (8 : Int) := my_ge c19 (nI_toInt (by omega)) (by decide +kernel)
        refine lv_iconst (v := 0) hx hb dX9_planes_43 (by decide +kernel) ?_
        refine lv_istore_n (lv' := [(1, .int 0), (0, .ref m0)]) hx hb dX9_planes_44 rfl hl (by decide) rfl (fun ls hl => ?_)
        have loop45 : ∀ (n9 : Nat) (pl : Nat) (a_read_45 : Nat → Int32), 11 - pl < n9 → (pl ≤ m0_readMany_16) → (∀ q, q < pl → a_read_45 q = nI (vlN (plB mt m_taped (plW mt m_taped)) (plW mt m_taped) 8 q)) → (RB 0 255 a_read_45) → ∀ (H : Heap) (locs : List Loc) (ls : Array Slot), va_P D vwCl (wl_k_X9_planes cI cJ cK m0 a_row a_tape a_number a_read a_readBits a_stands a_parted a_bitsWere a_stood a_chosen a_bestChosen a_often a_sorted a_risen a_risenWays 0 (nI m_told) 0 (nI m0_at_16) (nI m_taped) (nI m_many) (nI m0_readMany_16) m_fewest (nI m_size) mt a_readBits_16 a_read_45 mn) H → va_D A (wl_k_X9_planes cI cJ cK m0 a_row a_tape a_number a_read a_readBits a_stands a_parted a_bitsWere a_stood a_chosen a_bestChosen a_often a_sorted a_risen a_risenWays 0 (nI m_told) 0 (nI m0_at_16) (nI m_taped) (nI m_many) (nI m0_readMany_16) m_fewest (nI m_size) mt a_readBits_16 a_read_45 mn) → va_S A s.heap H locs → lv_has ls 9 [(1, .int (nI pl)), (0, .ref m0)] → W p l e ({ frames := 3, cells := 0, slots := 0, locals := 180 } : Room) s m [.ref m0].toArray below meth c H locs 0 0 (MQ below (va_Qi (fun (r : Int32) (u : va_W) => (∃ (m_thrown' : Int32) (m_taped' : Nat) (m_at' : Nat) (m_to' : Nat) (m_many' : Nat) (m_readMany' : Nat) (mb' : Nat → Int32) (md' : Nat → Int32) (mn' : Nat → Int32), u = (wl_k_X9_planes cI cJ cK m0 a_row a_tape a_number a_read a_readBits a_stands a_parted a_bitsWere a_stood a_chosen a_bestChosen a_often a_sorted a_risen a_risenWays m_thrown' (nI m_told) (nI m_taped') (nI m_at') (nI m_to') (nI m_many') (nI m_readMany') m_fewest (nI m_size) mt mb' md' mn') ∧ r = nI m_many' ∧ m_taped' ≤ 100 ∧ m_at' ≤ 100 ∧ m_to' ≤ 100 ∧ m_many' ≤ 64 ∧ m_readMany' ≤ 64 ∧ RB 0 1 mb' ∧ RB 0 255 md' ∧ RB 0 255 mn' ∧ m_taped' = 0 ∧ plOk mt m_taped ∧ m_many' = plW mt m_taped ∧ (∀ j, j < m_many' → mn' j = nI (vlN (plB mt m_taped (plW mt m_taped)) (plW mt m_taped) 8 j))) ∨ (∃ (m_thrown' : Int32) (m_taped' : Nat) (m_at' : Nat) (m_to' : Nat) (m_readMany' : Nat) (mb' : Nat → Int32), u = (wl_k_X9_planes cI cJ cK m0 a_row a_tape a_number a_read a_readBits a_stands a_parted a_bitsWere a_stood a_chosen a_bestChosen a_often a_sorted a_risen a_risenWays m_thrown' (nI m_told) (nI m_taped') (nI m_at') (nI m_to') (nI m_many) (nI m_readMany') m_fewest (nI m_size) mt mb' md mn) ∧ m_taped' ≤ 100 ∧ m_at' ≤ 100 ∧ m_to' ≤ 100 ∧ m_readMany' ≤ 64 ∧ RB 0 1 mb' ∧ m_taped' = 0 ∧ (∃ e, plErr mt m_taped e ∧ r.toInt = -1 - (e : Int)))) (my_B D (tyIJ cI cJ cK) A) A) [.ref m0].toArray s 0 0 A) (F0 m 45 ls []) := by
          intro n9
          induction n9 with
          | zero =>
            intro pl a_read_45 hn9
            exact absurd hn9 (Nat.not_lt_zero _)
          | succ n9 ih45 =>
            intro pl a_read_45 hn9 hk_pl hrv hR_a_read_45 H locs ls hP hD hS hl
            refine lv_iload_n hx hb dX9_planes_45 rfl (lv_at hl 0 rfl) ?_
            refine lv_aload_n hx hb dX9_planes_46 rfl (lv_at hl 1 rfl) ?_
            refine va_get (ci := 9) (v := .int (nI m0_readMany_16)) (C := RX9) (T := TX9) (N := 24) hx hb hts hi9 hown hK hP 0 rfl rfl 10 (by decide) fl93 (fun _ h9 => h9) rfl dX9_planes_47 ?_
            refine lv_icmp_ge (tgt := 213) hx hb dX9_planes_50 (by decide) (fun c50 => ?_) (fun c50 => ?_)
            ·
              have d50 : ((pl : Nat) : Int) ≥ ((m0_readMany_16 : Nat) : Int) := my_ge c50 (nI_toInt (by omega)) (nI_toInt (by omega))
              refine lv_aload_n hx hb dX9_planes_213 rfl (lv_at hl 1 rfl) ?_
              refine my_goVS (wc := (wl_k_X9_becomesRead cI cJ cK m0 a_row a_tape a_number a_read a_readBits a_stands a_parted a_bitsWere a_stood a_chosen a_bestChosen a_often a_sorted a_risen a_risenWays 0 (nI m_told) 0 (nI m0_at_16) (nI m_taped) (nI m_many) (nI m0_readMany_16) m_fewest (nI m_size) mn a_read_45)) hP hD hS hA [0, 4, 3] rfl [some 0, none, none, some 2, some 1] (by decide +kernel) (my_cV (As := []) (rest := []) (ci := 9) (wc := (wl_k_X9_becomesRead cI cJ cK m0 a_row a_tape a_number a_read a_readBits a_stands a_parted a_bitsWere a_stood a_chosen a_bestChosen a_often a_sorted a_risen a_risenWays 0 (nI m_told) 0 (nI m0_at_16) (nI m_taped) (nI m_many) (nI m0_readMany_16) m_fewest (nI m_size) mn a_read_45)) ⟨hx, hb, hml, hown, hts⟩ (cwV 0 hts gX9_planes_X9_becomesRead rfl rfl rfl (by decide +kernel) ⟨Nat.le_of_ble_eq_true rfl, Nat.le_of_ble_eq_true rfl⟩) hN hK hP hD [0, 4, 3] rfl (by decide) rfl 0 rfl rfl rfl rfl hl.1 rfl (Nat.le_of_ble_eq_true rfl) dX9_planes_214 ⟨Nat.le_of_ble_eq_true rfl, Nat.le_of_ble_eq_true rfl⟩  ((k_X9_becomesRead l D cI cJ cK m0 a_row a_tape a_number a_read a_readBits a_stands a_parted a_bitsWere a_stood a_chosen a_bestChosen a_often a_sorted a_risen a_risenWays (0 : Int32) m_told 0 m0_at_16 m_taped m_many m0_readMany_16 m_fewest m_size mn a_read_45 (by first | assumption | omega | decide +kernel) (by first | assumption | omega | decide +kernel) (by first | assumption | omega | decide +kernel) (by first | assumption | omega | decide +kernel) (by first | assumption | omega | decide +kernel) (by first | assumption | omega | decide +kernel) (by first | assumption | omega | decide +kernel) hR_mn hR_a_read_45) _)) (fun u H locs hp hPD hS => ?_)
              obtain ⟨m_many_1, mn_2, rfl, hhz_m_many_3, hR_mn_2, ha_4, hbr⟩ := hp
              obtain ⟨hP, hD⟩ := hPD rfl
              have hP : va_P D vwCl (wl_k_X9_planes cI cJ cK m0 a_row a_tape a_number a_read a_readBits a_stands a_parted a_bitsWere a_stood a_chosen a_bestChosen a_often a_sorted a_risen a_risenWays 0 (nI m_told) 0 (nI m0_at_16) (nI m_taped) (nI m_many_1) (nI m0_readMany_16) m_fewest (nI m_size) mt a_readBits_16 a_read_45 mn_2) H := hP
              have hD : va_D A (wl_k_X9_planes cI cJ cK m0 a_row a_tape a_number a_read a_readBits a_stands a_parted a_bitsWere a_stood a_chosen a_bestChosen a_often a_sorted a_risen a_risenWays 0 (nI m_told) 0 (nI m0_at_16) (nI m_taped) (nI m_many_1) (nI m0_readMany_16) m_fewest (nI m_size) mt a_readBits_16 a_read_45 mn_2) := hD
              refine lv_aload_n hx hb dX9_planes_217 rfl (lv_at hl 1 rfl) ?_
              refine va_get (ci := 9) (v := .int (nI m_many_1)) (C := RX9) (T := TX9) (N := 24) hx hb hts hi9 hown hK hP 0 rfl rfl 7 (by decide) fl88 (fun _ h9 => h9) rfl dX9_planes_218 ?_
              have ec_5 : (nI m_many_1).toInt = _ := nI_toInt (by omega)
              exact my_retI hx hb hr hlocks hK hS (wl_k_X9_planes cI cJ cK m0 a_row a_tape a_number a_read a_readBits a_stands a_parted a_bitsWere a_stood a_chosen a_bestChosen a_often a_sorted a_risen a_risenWays 0 (nI m_told) 0 (nI m0_at_16) (nI m_taped) (nI m_many_1) (nI m0_readMany_16) m_fewest (nI m_size) mt a_readBits_16 a_read_45 mn_2) hP hD (Or.inl ⟨0, 0, m0_at_16, m_taped, m_many_1, m0_readMany_16, a_readBits_16, a_read_45, mn_2, rfl, rfl, (by first | assumption | omega | trivial | decide +kernel), (by first | assumption | omega | trivial | decide +kernel), (by first | assumption | omega | trivial | decide +kernel), (by first | assumption | omega | trivial | decide +kernel), (by first | assumption | omega | trivial | decide +kernel), hR_a_readBits_16, hR_a_read_45, hR_mn_2, (by first | assumption | omega | trivial | decide +kernel), (fun q hq => hOk q (by omega)), (by omega), (fun j h => (hbr j (by omega)).trans (hrv j (by omega)))⟩) dX9_planes_221
            ·
              have d50 : ((pl : Nat) : Int) < ((m0_readMany_16 : Nat) : Int) := my_nge c50 (nI_toInt (by omega)) (nI_toInt (by omega))
              refine lv_iload_n hx hb dX9_planes_53 rfl (lv_at hl 0 rfl) ?_
              refine lv_istore_n (lv' := [(2, .int (nI pl)), (1, .int (nI pl)), (0, .ref m0)]) hx hb dX9_planes_54 rfl hl (by decide) rfl (fun ls hl => ?_)
              refine lv_iconst (v := 0) hx hb dX9_planes_55 (by decide +kernel) ?_
              refine lv_istore_n (lv' := [(3, .int 0), (2, .int (nI pl)), (1, .int (nI pl)), (0, .ref m0)]) hx hb dX9_planes_56 rfl hl (by decide) rfl (fun ls hl => ?_)
              refine lv_iconst (v := 0) hx hb dX9_planes_57 (by decide +kernel) ?_
              refine lv_istore (lv' := [(4, .int 0), (3, .int 0), (2, .int (nI pl)), (1, .int (nI pl)), (0, .ref m0)]) hx hb dX9_planes_58 hl (by decide) rfl (fun ls hl => ?_)
              have loop60 : ∀ (n9 : Nat) (j : Nat) (x : Nat) (sp : Nat), 8 - j < n9 → (j ≤ 8) → (sp < m0_readMany_16) → (sp = spN (plB mt m_taped (plW mt m_taped)) (plW mt m_taped) j pl) → (x = vlN (plB mt m_taped (plW mt m_taped)) (plW mt m_taped) j pl) → ∀ (H : Heap) (locs : List Loc) (ls : Array Slot), va_P D vwCl (wl_k_X9_planes cI cJ cK m0 a_row a_tape a_number a_read a_readBits a_stands a_parted a_bitsWere a_stood a_chosen a_bestChosen a_often a_sorted a_risen a_risenWays 0 (nI m_told) 0 (nI m0_at_16) (nI m_taped) (nI m_many) (nI m0_readMany_16) m_fewest (nI m_size) mt a_readBits_16 a_read_45 mn) H → va_D A (wl_k_X9_planes cI cJ cK m0 a_row a_tape a_number a_read a_readBits a_stands a_parted a_bitsWere a_stood a_chosen a_bestChosen a_often a_sorted a_risen a_risenWays 0 (nI m_told) 0 (nI m0_at_16) (nI m_taped) (nI m_many) (nI m0_readMany_16) m_fewest (nI m_size) mt a_readBits_16 a_read_45 mn) → va_S A s.heap H locs → lv_has ls 9 [(4, .int (nI j)), (3, .int (nI x)), (2, .int (nI sp)), (1, .int (nI pl)), (0, .ref m0)] → W p l e ({ frames := 3, cells := 0, slots := 0, locals := 180 } : Room) s m [.ref m0].toArray below meth c H locs 0 0 (MQ below (va_Qi (fun (r : Int32) (u : va_W) => (∃ (m_thrown' : Int32) (m_taped' : Nat) (m_at' : Nat) (m_to' : Nat) (m_many' : Nat) (m_readMany' : Nat) (mb' : Nat → Int32) (md' : Nat → Int32) (mn' : Nat → Int32), u = (wl_k_X9_planes cI cJ cK m0 a_row a_tape a_number a_read a_readBits a_stands a_parted a_bitsWere a_stood a_chosen a_bestChosen a_often a_sorted a_risen a_risenWays m_thrown' (nI m_told) (nI m_taped') (nI m_at') (nI m_to') (nI m_many') (nI m_readMany') m_fewest (nI m_size) mt mb' md' mn') ∧ r = nI m_many' ∧ m_taped' ≤ 100 ∧ m_at' ≤ 100 ∧ m_to' ≤ 100 ∧ m_many' ≤ 64 ∧ m_readMany' ≤ 64 ∧ RB 0 1 mb' ∧ RB 0 255 md' ∧ RB 0 255 mn' ∧ m_taped' = 0 ∧ plOk mt m_taped ∧ m_many' = plW mt m_taped ∧ (∀ j, j < m_many' → mn' j = nI (vlN (plB mt m_taped (plW mt m_taped)) (plW mt m_taped) 8 j))) ∨ (∃ (m_thrown' : Int32) (m_taped' : Nat) (m_at' : Nat) (m_to' : Nat) (m_readMany' : Nat) (mb' : Nat → Int32), u = (wl_k_X9_planes cI cJ cK m0 a_row a_tape a_number a_read a_readBits a_stands a_parted a_bitsWere a_stood a_chosen a_bestChosen a_often a_sorted a_risen a_risenWays m_thrown' (nI m_told) (nI m_taped') (nI m_at') (nI m_to') (nI m_many) (nI m_readMany') m_fewest (nI m_size) mt mb' md mn) ∧ m_taped' ≤ 100 ∧ m_at' ≤ 100 ∧ m_to' ≤ 100 ∧ m_readMany' ≤ 64 ∧ RB 0 1 mb' ∧ m_taped' = 0 ∧ (∃ e, plErr mt m_taped e ∧ r.toInt = -1 - (e : Int)))) (my_B D (tyIJ cI cJ cK) A) A) [.ref m0].toArray s 0 0 A) (F0 m 60 ls []) := by
                intro n9
                induction n9 with
                | zero =>
                  intro j x sp hn9
                  exact absurd hn9 (Nat.not_lt_zero _)
                | succ n9 ih60 =>
                  intro j x sp hn9 hk_j hs hsp hxv H locs ls hP hD hS hl
                  refine lv_iload hx hb dX9_planes_60 (lv_at hl 0 rfl) ?_
                  refine lv_bipush (v := 8) hx hb dX9_planes_62 (by decide +kernel) ?_
                  refine lv_icmp_ge (tgt := 200) hx hb dX9_planes_64 (by decide) (fun c64 => ?_) (fun c64 => ?_)
                  ·
                    have d64 : ((j : Nat) : Int) ≥ (8 : Int) := my_ge c64 (nI_toInt (by omega)) (by decide +kernel)
                    refine lv_aload_n hx hb dX9_planes_200 rfl (lv_at hl 4 rfl) ?_
                    refine va_get (ci := 9) (v := .ref a_read) (C := RX9) (T := TX9) (N := 24) hx hb hts hi9 hown hK hP 0 rfl rfl 9 (by decide) fl52 (fun _ h9 => h9) rfl dX9_planes_201 ?_
                    refine lv_iload_n hx hb dX9_planes_204 rfl (lv_at hl 3 rfl) ?_
                    refine lv_iload_n hx hb dX9_planes_205 rfl (lv_at hl 1 rfl) ?_
                    have hx8 : x = vlN (plB mt m_taped (plW mt m_taped)) (plW mt m_taped) 8 pl := by rw [hxv, show j = 8 from (by omega)]
                    have hvl := vlN_lt (plB mt m_taped (plW mt m_taped)) (plW mt m_taped) pl 8
                    refine va_iast hx hb hK hP hD hS 3 0 rfl rfl (vp_in_nI (by omega) (by omega)) dX9_planes_206 (fun H locs hP hD hS => ?_)
                    obtain ⟨g_6, eg_6⟩ : ∃ g : Nat → Int32, g = upd a_read_45 pl (nI x) := ⟨_, rfl⟩
                    have eU : upd a_read_45 (nI pl : Int32).toNatClampNeg (nI x) = g_6 := by rw [eg_6, show (nI pl : Int32).toNatClampNeg = pl from nI_clamp (by omega)]
                    rw [eU] at hP hD
                    have hR_g_6 : RB 0 255 g_6 := by rw [eg_6]; exact hR_a_read_45.upd (nI_toInt (by omega)) (by omega) (by omega)
                    have hP : va_P D vwCl (wl_k_X9_planes cI cJ cK m0 a_row a_tape a_number a_read a_readBits a_stands a_parted a_bitsWere a_stood a_chosen a_bestChosen a_often a_sorted a_risen a_risenWays 0 (nI m_told) 0 (nI m0_at_16) (nI m_taped) (nI m_many) (nI m0_readMany_16) m_fewest (nI m_size) mt a_readBits_16 g_6 mn) H := hP
                    have hD : va_D A (wl_k_X9_planes cI cJ cK m0 a_row a_tape a_number a_read a_readBits a_stands a_parted a_bitsWere a_stood a_chosen a_bestChosen a_often a_sorted a_risen a_risenWays 0 (nI m_told) 0 (nI m0_at_16) (nI m_taped) (nI m_many) (nI m0_readMany_16) m_fewest (nI m_size) mt a_readBits_16 g_6 mn) := hD
                    refine lv_iinc (v := nI (pl + 1)) (lv' := [(1, .int (nI (pl + 1))), (4, .int (nI j)), (3, .int (nI x)), (2, .int (nI sp)), (0, .ref m0)]) hx hb dX9_planes_207 hl (k := 3) rfl (my_incN pl 1 (by decide +kernel)) (by decide) rfl (fun ls hl => ?_)
                    refine lv_goto (tgt := 45) hx hb dX9_planes_210 (by decide) ?_
                    exact ih45  (pl + 1) g_6 (by omega) (by first | assumption | omega | decide +kernel) (nv_step (by assumption) (by rw [hx8]) hrv) hR_g_6 _ _ ls hP hD hS (lv_sub hl [0, 4] rfl)
                  ·
                    have d64 : ((j : Nat) : Int) < (8 : Int) := my_nge c64 (nI_toInt (by omega)) (by decide +kernel)
                    refine lv_aload_n hx hb dX9_planes_67 rfl (lv_at hl 4 rfl) ?_
                    refine va_get (ci := 9) (v := .ref a_readBits) (C := RX9) (T := TX9) (N := 24) hx hb hts hi9 hown hK hP 0 rfl rfl 11 (by decide) fl55 (fun _ h9 => h9) rfl dX9_planes_68 ?_
                    refine lv_bipush (v := 11) hx hb dX9_planes_71 (by decide +kernel) ?_
                    refine lv_iload hx hb dX9_planes_73 (lv_at hl 0 rfl) ?_
                    refine lv_imul hx hb dX9_planes_75 ?_
                    refine my_eqi (y := nI (11 * j)) (my_mulN _ _) ?_
                    refine lv_iload_n hx hb dX9_planes_76 rfl (lv_at hl 2 rfl) ?_
                    refine lv_iadd hx hb dX9_planes_77 ?_
                    refine my_eqi (y := nI (11 * j + sp)) (nI_add _ _) ?_
                    have hbl := bN_le ((plB mt m_taped (plW mt m_taped)) j sp)
                    refine va_iald hx hb hK hP 2 0 rfl rfl (vp_in_nI (by omega) (by omega)) dX9_planes_78 ?_
                    refine my_eqi (y := nI (bN ((plB mt m_taped (plW mt m_taped)) j sp))) ((congrArg a_readBits_16 (nI_clamp (by omega))).trans (hbB j (by omega) sp (by omega))) ?_
                    refine lv_istore (lv' := [(5, .int (nI (bN ((plB mt m_taped (plW mt m_taped)) j sp)))), (4, .int (nI j)), (3, .int (nI x)), (2, .int (nI sp)), (1, .int (nI pl)), (0, .ref m0)]) hx hb dX9_planes_79 hl (by decide) rfl (fun ls hl => ?_)
                    refine lv_iconst (v := 0) hx hb dX9_planes_81 (by decide +kernel) ?_
                    refine lv_istore (lv' := [(6, .int 0), (5, .int (nI (bN ((plB mt m_taped (plW mt m_taped)) j sp)))), (4, .int (nI j)), (3, .int (nI x)), (2, .int (nI sp)), (1, .int (nI pl)), (0, .ref m0)]) hx hb dX9_planes_82 hl (by decide) rfl (fun ls hl => ?_)
                    refine lv_iconst (v := 0) hx hb dX9_planes_84 (by decide +kernel) ?_
                    refine lv_istore (lv' := [(7, .int 0), (6, .int 0), (5, .int (nI (bN ((plB mt m_taped (plW mt m_taped)) j sp)))), (4, .int (nI j)), (3, .int (nI x)), (2, .int (nI sp)), (1, .int (nI pl)), (0, .ref m0)]) hx hb dX9_planes_85 hl (by decide) rfl (fun ls hl => ?_)
                    refine lv_iconst (v := 0) hx hb dX9_planes_87 (by decide +kernel) ?_
                    refine lv_istore (lv' := [(8, .int 0), (7, .int 0), (6, .int 0), (5, .int (nI (bN ((plB mt m_taped (plW mt m_taped)) j sp)))), (4, .int (nI j)), (3, .int (nI x)), (2, .int (nI sp)), (1, .int (nI pl)), (0, .ref m0)]) hx hb dX9_planes_88 hl (by decide) rfl (fun ls hl => ?_)
                    have loop90 : ∀ (n9 : Nat) (k : Nat) (zc : Nat) (a : Nat), 11 - k < n9 → (a ≤ 11) → (zc ≤ 11) → (k ≤ 11) → (k ≤ m0_readMany_16) → (a ≤ k ∧ zc ≤ k) → (a = fb_ct (plP ((plB mt m_taped (plW mt m_taped)) j) sp) k) → (zc = fb_ct (plZ ((plB mt m_taped (plW mt m_taped)) j)) k) → ∀ (H : Heap) (locs : List Loc) (ls : Array Slot), va_P D vwCl (wl_k_X9_planes cI cJ cK m0 a_row a_tape a_number a_read a_readBits a_stands a_parted a_bitsWere a_stood a_chosen a_bestChosen a_often a_sorted a_risen a_risenWays 0 (nI m_told) 0 (nI m0_at_16) (nI m_taped) (nI m_many) (nI m0_readMany_16) m_fewest (nI m_size) mt a_readBits_16 a_read_45 mn) H → va_D A (wl_k_X9_planes cI cJ cK m0 a_row a_tape a_number a_read a_readBits a_stands a_parted a_bitsWere a_stood a_chosen a_bestChosen a_often a_sorted a_risen a_risenWays 0 (nI m_told) 0 (nI m0_at_16) (nI m_taped) (nI m_many) (nI m0_readMany_16) m_fewest (nI m_size) mt a_readBits_16 a_read_45 mn) → va_S A s.heap H locs → lv_has ls 9 [(8, .int (nI k)), (7, .int (nI zc)), (6, .int (nI a)), (5, .int (nI (bN ((plB mt m_taped (plW mt m_taped)) j sp)))), (4, .int (nI j)), (3, .int (nI x)), (2, .int (nI sp)), (1, .int (nI pl)), (0, .ref m0)] → W p l e ({ frames := 3, cells := 0, slots := 0, locals := 180 } : Room) s m [.ref m0].toArray below meth c H locs 0 0 (MQ below (va_Qi (fun (r : Int32) (u : va_W) => (∃ (m_thrown' : Int32) (m_taped' : Nat) (m_at' : Nat) (m_to' : Nat) (m_many' : Nat) (m_readMany' : Nat) (mb' : Nat → Int32) (md' : Nat → Int32) (mn' : Nat → Int32), u = (wl_k_X9_planes cI cJ cK m0 a_row a_tape a_number a_read a_readBits a_stands a_parted a_bitsWere a_stood a_chosen a_bestChosen a_often a_sorted a_risen a_risenWays m_thrown' (nI m_told) (nI m_taped') (nI m_at') (nI m_to') (nI m_many') (nI m_readMany') m_fewest (nI m_size) mt mb' md' mn') ∧ r = nI m_many' ∧ m_taped' ≤ 100 ∧ m_at' ≤ 100 ∧ m_to' ≤ 100 ∧ m_many' ≤ 64 ∧ m_readMany' ≤ 64 ∧ RB 0 1 mb' ∧ RB 0 255 md' ∧ RB 0 255 mn' ∧ m_taped' = 0 ∧ plOk mt m_taped ∧ m_many' = plW mt m_taped ∧ (∀ j, j < m_many' → mn' j = nI (vlN (plB mt m_taped (plW mt m_taped)) (plW mt m_taped) 8 j))) ∨ (∃ (m_thrown' : Int32) (m_taped' : Nat) (m_at' : Nat) (m_to' : Nat) (m_readMany' : Nat) (mb' : Nat → Int32), u = (wl_k_X9_planes cI cJ cK m0 a_row a_tape a_number a_read a_readBits a_stands a_parted a_bitsWere a_stood a_chosen a_bestChosen a_often a_sorted a_risen a_risenWays m_thrown' (nI m_told) (nI m_taped') (nI m_at') (nI m_to') (nI m_many) (nI m_readMany') m_fewest (nI m_size) mt mb' md mn) ∧ m_taped' ≤ 100 ∧ m_at' ≤ 100 ∧ m_to' ≤ 100 ∧ m_readMany' ≤ 64 ∧ RB 0 1 mb' ∧ m_taped' = 0 ∧ (∃ e, plErr mt m_taped e ∧ r.toInt = -1 - (e : Int)))) (my_B D (tyIJ cI cJ cK) A) A) [.ref m0].toArray s 0 0 A) (F0 m 90 ls []) := by
                      intro n9
                      induction n9 with
                      | zero =>
                        intro k zc a hn9
                        exact absurd hn9 (Nat.not_lt_zero _)
                      | succ n9 ih90 =>
                        intro k zc a hn9 hk_a hk_zc hk_k hkr hak hap hzp H locs ls hP hD hS hl
                        refine lv_iload hx hb dX9_planes_90 (lv_at hl 0 rfl) ?_
                        refine lv_aload_n hx hb dX9_planes_92 rfl (lv_at hl 8 rfl) ?_
                        refine va_get (ci := 9) (v := .int (nI m0_readMany_16)) (C := RX9) (T := TX9) (N := 24) hx hb hts hi9 hown hK hP 0 rfl rfl 10 (by decide) fl93 (fun _ h9 => h9) rfl dX9_planes_93 ?_
                        refine lv_icmp_ge (tgt := 171) hx hb dX9_planes_96 (by decide) (fun c96 => ?_) (fun c96 => ?_)
                        ·
                          have d96 : ((k : Nat) : Int) ≥ ((m0_readMany_16 : Nat) : Int) := my_ge c96 (nI_toInt (by omega)) (nI_toInt (by omega))
                          have ek9 : k = (plW mt m_taped) := by rcases hQ with h | h; (exact absurd h (by omega)); (omega)
                          have hap9 : a = fb_ct (plP ((plB mt m_taped (plW mt m_taped)) j) sp) (plW mt m_taped) := by rw [hap, ek9]
                          have hzp9 : zc = fb_ct (plZ ((plB mt m_taped (plW mt m_taped)) j)) (plW mt m_taped) := by rw [hzp, ek9]
                          have hnx0 : bN ((plB mt m_taped (plW mt m_taped)) j sp) = 0 → a = nxb ((plB mt m_taped (plW mt m_taped)) j) (plW mt m_taped) sp := fun h => nx_0 hap9 (by omega) h
                          have hnx1 : bN ((plB mt m_taped (plW mt m_taped)) j sp) ≠ 0 → zc + a = nxb ((plB mt m_taped (plW mt m_taped)) j) (plW mt m_taped) sp := fun h => nx_1 hap9 hzp9 (by omega) h
                          refine lv_iload hx hb dX9_planes_171 (lv_at hl 3 rfl) ?_
                          refine lv_if_ne (tgt := 181) hx hb dX9_planes_173 (by decide) (fun c173 => ?_) (fun c173 => ?_)
                          ·
                            have d173 : ((bN ((plB mt m_taped (plW mt m_taped)) j sp) : Nat) : Int) ≠ (0 : Int) := my_ne c173 (nI_toInt (by omega)) (by decide +kernel)
                            refine lv_iload hx hb dX9_planes_181 (lv_at hl 1 rfl) ?_
                            refine lv_iload hx hb dX9_planes_183 (lv_at hl 2 rfl) ?_
                            refine lv_iadd hx hb dX9_planes_185 ?_
                            refine my_eqi (y := nI (zc + a)) (nI_add _ _) ?_
                            refine lv_istore_n (lv' := [(2, .int (nI (zc + a))), (8, .int (nI k)), (7, .int (nI zc)), (6, .int (nI a)), (5, .int (nI (bN ((plB mt m_taped (plW mt m_taped)) j sp)))), (4, .int (nI j)), (3, .int (nI x)), (1, .int (nI pl)), (0, .ref m0)]) hx hb dX9_planes_186 rfl hl (by decide) rfl (fun ls hl => ?_)
                            refine lv_iconst (v := 2) hx hb dX9_planes_187 (by decide +kernel) ?_
                            refine lv_iload_n hx hb dX9_planes_188 rfl (lv_at hl 6 rfl) ?_
                            refine lv_imul hx hb dX9_planes_189 ?_
                            refine my_eqi (y := nI (2 * x)) (my_mulN _ _) ?_
                            refine lv_iload hx hb dX9_planes_190 (lv_at hl 4 rfl) ?_
                            refine lv_iadd hx hb dX9_planes_192 ?_
                            refine my_eqi (y := nI (2 * x + bN ((plB mt m_taped (plW mt m_taped)) j sp))) (nI_add _ _) ?_
                            refine lv_istore_n (lv' := [(3, .int (nI (2 * x + bN ((plB mt m_taped (plW mt m_taped)) j sp)))), (2, .int (nI (zc + a))), (8, .int (nI k)), (7, .int (nI zc)), (6, .int (nI a)), (5, .int (nI (bN ((plB mt m_taped (plW mt m_taped)) j sp)))), (4, .int (nI j)), (1, .int (nI pl)), (0, .ref m0)]) hx hb dX9_planes_193 rfl hl (by decide) rfl (fun ls hl => ?_)
                            refine lv_iinc (v := nI (j + 1)) (lv' := [(4, .int (nI (j + 1))), (3, .int (nI (2 * x + bN ((plB mt m_taped (plW mt m_taped)) j sp)))), (2, .int (nI (zc + a))), (8, .int (nI k)), (7, .int (nI zc)), (6, .int (nI a)), (5, .int (nI (bN ((plB mt m_taped (plW mt m_taped)) j sp)))), (1, .int (nI pl)), (0, .ref m0)]) hx hb dX9_planes_194 hl (k := 6) rfl (my_incN j 1 (by decide +kernel)) (by decide) rfl (fun ls hl => ?_)
                            refine lv_goto (tgt := 60) hx hb dX9_planes_197 (by decide) ?_
                            exact ih60  (j + 1) (2 * x + bN ((plB mt m_taped (plW mt m_taped)) j sp)) (zc + a) (by omega) (by first | assumption | omega | decide +kernel) (by have h9 := nxb_lt (b := (plB mt m_taped (plW mt m_taped)) j) (show sp < (plW mt m_taped) by omega); first | (rw [hnx0 (by omega)]; omega) | (rw [hnx1 (by omega)]; omega)) (by show _ = nxb ((plB mt m_taped (plW mt m_taped)) j) (plW mt m_taped) (spN (plB mt m_taped (plW mt m_taped)) (plW mt m_taped) j pl); rw [← hsp]; first | exact hnx0 (by omega) | exact hnx1 (by omega)) (by rw [hxv, hsp]; rfl) _ _ ls hP hD hS (lv_sub hl [0, 1, 2, 7, 8] rfl)
                          ·
                            have d173 : ((bN ((plB mt m_taped (plW mt m_taped)) j sp) : Nat) : Int) = (0 : Int) := my_eq c173 (nI_toInt (by omega)) (by decide +kernel)
                            refine lv_iload hx hb dX9_planes_176 (lv_at hl 2 rfl) ?_
                            refine lv_goto (tgt := 186) hx hb dX9_planes_178 (by decide) ?_
                            refine lv_istore_n (lv' := [(2, .int (nI a)), (8, .int (nI k)), (7, .int (nI zc)), (6, .int (nI a)), (5, .int (nI (bN ((plB mt m_taped (plW mt m_taped)) j sp)))), (4, .int (nI j)), (3, .int (nI x)), (1, .int (nI pl)), (0, .ref m0)]) hx hb dX9_planes_186 rfl hl (by decide) rfl (fun ls hl => ?_)
                            refine lv_iconst (v := 2) hx hb dX9_planes_187 (by decide +kernel) ?_
                            refine lv_iload_n hx hb dX9_planes_188 rfl (lv_at hl 6 rfl) ?_
                            refine lv_imul hx hb dX9_planes_189 ?_
                            refine my_eqi (y := nI (2 * x)) (my_mulN _ _) ?_
                            refine lv_iload hx hb dX9_planes_190 (lv_at hl 4 rfl) ?_
                            refine lv_iadd hx hb dX9_planes_192 ?_
                            refine my_eqi (y := nI (2 * x + bN ((plB mt m_taped (plW mt m_taped)) j sp))) (nI_add _ _) ?_
                            refine lv_istore_n (lv' := [(3, .int (nI (2 * x + bN ((plB mt m_taped (plW mt m_taped)) j sp)))), (2, .int (nI a)), (8, .int (nI k)), (7, .int (nI zc)), (6, .int (nI a)), (5, .int (nI (bN ((plB mt m_taped (plW mt m_taped)) j sp)))), (4, .int (nI j)), (1, .int (nI pl)), (0, .ref m0)]) hx hb dX9_planes_193 rfl hl (by decide) rfl (fun ls hl => ?_)
                            refine lv_iinc (v := nI (j + 1)) (lv' := [(4, .int (nI (j + 1))), (3, .int (nI (2 * x + bN ((plB mt m_taped (plW mt m_taped)) j sp)))), (2, .int (nI a)), (8, .int (nI k)), (7, .int (nI zc)), (6, .int (nI a)), (5, .int (nI (bN ((plB mt m_taped (plW mt m_taped)) j sp)))), (1, .int (nI pl)), (0, .ref m0)]) hx hb dX9_planes_194 hl (k := 6) rfl (my_incN j 1 (by decide +kernel)) (by decide) rfl (fun ls hl => ?_)
                            refine lv_goto (tgt := 60) hx hb dX9_planes_197 (by decide) ?_
                            exact ih60  (j + 1) (2 * x + bN ((plB mt m_taped (plW mt m_taped)) j sp)) a (by omega) (by first | assumption | omega | decide +kernel) (by have h9 := nxb_lt (b := (plB mt m_taped (plW mt m_taped)) j) (show sp < (plW mt m_taped) by omega); first | (rw [hnx0 (by omega)]; omega) | (rw [hnx1 (by omega)]; omega)) (by show _ = nxb ((plB mt m_taped (plW mt m_taped)) j) (plW mt m_taped) (spN (plB mt m_taped (plW mt m_taped)) (plW mt m_taped) j pl); rw [← hsp]; first | exact hnx0 (by omega) | exact hnx1 (by omega)) (by rw [hxv, hsp]; rfl) _ _ ls hP hD hS (lv_sub hl [0, 1, 2, 7, 8] rfl)
                        ·
                          have d96 : ((k : Nat) : Int) < ((m0_readMany_16 : Nat) : Int) := my_nge c96 (nI_toInt (by omega)) (nI_toInt (by omega))
                          refine lv_iload hx hb dX9_planes_99 (lv_at hl 2 rfl) ?_
                          refine lv_iload hx hb dX9_planes_101 (lv_at hl 0 rfl) ?_
                          refine lv_iload_n hx hb dX9_planes_103 rfl (lv_at hl 6 rfl) ?_
                          refine lv_icmp_ge (tgt := 129) hx hb dX9_planes_104 (by decide) (fun c104 => ?_) (fun c104 => ?_)
                          ·
                            have d104 : ((k : Nat) : Int) ≥ ((sp : Nat) : Int) := my_ge c104 (nI_toInt (by omega)) (nI_toInt (by omega))
                            refine lv_iconst (v := 0) hx hb dX9_planes_129 (by decide +kernel) ?_
                            refine my_gpI (my_pS (As := [.int 0]) (rest := [.int (nI a)]) ⟨hx, hb, hml, hown, hts⟩ (va_cwS 1 hts gX9_planes_X9_flag rfl rfl rfl (by decide +kernel) ⟨Nat.le_of_ble_eq_true rfl, Nat.le_of_ble_eq_true rfl⟩) hN hK hP [] rfl rfl hl.1 rfl (Nat.le_of_ble_eq_true rfl) dX9_planes_130 ⟨Nat.le_of_ble_eq_true rfl, Nat.le_of_ble_eq_true rfl⟩  (k0_X9_flag l D cI cJ cK )) (fun r hp => ?_)
                            obtain rfl := hp
                            refine lv_iadd hx hb dX9_planes_133 ?_
                            refine my_eqi (y := nI a) (my_addN a 0) ?_
                            refine lv_istore (lv' := [(6, .int (nI a)), (8, .int (nI k)), (7, .int (nI zc)), (5, .int (nI (bN ((plB mt m_taped (plW mt m_taped)) j sp)))), (4, .int (nI j)), (3, .int (nI x)), (2, .int (nI sp)), (1, .int (nI pl)), (0, .ref m0)]) hx hb dX9_planes_134 hl (by decide) rfl (fun ls hl => ?_)
                            refine lv_iload hx hb dX9_planes_136 (lv_at hl 2 rfl) ?_
                            refine lv_aload_n hx hb dX9_planes_138 rfl (lv_at hl 8 rfl) ?_
                            refine va_get (ci := 9) (v := .ref a_readBits) (C := RX9) (T := TX9) (N := 24) hx hb hts hi9 hown hK hP 0 rfl rfl 11 (by decide) fl55 (fun _ h9 => h9) rfl dX9_planes_139 ?_
                            refine lv_bipush (v := 11) hx hb dX9_planes_142 (by decide +kernel) ?_
                            refine lv_iload hx hb dX9_planes_144 (lv_at hl 4 rfl) ?_
                            refine lv_imul hx hb dX9_planes_146 ?_
                            refine my_eqi (y := nI (11 * j)) (my_mulN _ _) ?_
                            refine lv_iload hx hb dX9_planes_147 (lv_at hl 1 rfl) ?_
                            refine lv_iadd hx hb dX9_planes_149 ?_
                            refine my_eqi (y := nI (11 * j + k)) (nI_add _ _) ?_
                            have hblk := bN_le ((plB mt m_taped (plW mt m_taped)) j k)
                            refine va_iald hx hb hK hP 2 0 rfl rfl (vp_in_nI (by omega) (by omega)) dX9_planes_150 ?_
                            refine my_eqi (y := nI (bN ((plB mt m_taped (plW mt m_taped)) j k))) ((congrArg a_readBits_16 (nI_clamp (by omega))).trans (hbB j (by omega) k (by omega))) ?_
                            refine lv_if_ne (tgt := 158) hx hb dX9_planes_151 (by decide) (fun c151 => ?_) (fun c151 => ?_)
                            ·
                              have d151 : ((bN ((plB mt m_taped (plW mt m_taped)) j k) : Nat) : Int) ≠ (0 : Int) := my_ne c151 (nI_toInt (by omega)) (by decide +kernel)
                              refine lv_iconst (v := 0) hx hb dX9_planes_158 (by decide +kernel) ?_
                              refine my_gpI (my_pS (As := [.int 0]) (rest := [.int (nI zc)]) ⟨hx, hb, hml, hown, hts⟩ (va_cwS 1 hts gX9_planes_X9_flag rfl rfl rfl (by decide +kernel) ⟨Nat.le_of_ble_eq_true rfl, Nat.le_of_ble_eq_true rfl⟩) hN hK hP [] rfl rfl hl.1 rfl (Nat.le_of_ble_eq_true rfl) dX9_planes_159 ⟨Nat.le_of_ble_eq_true rfl, Nat.le_of_ble_eq_true rfl⟩  (k0_X9_flag l D cI cJ cK )) (fun r hp => ?_)
                              obtain rfl := hp
                              refine lv_iadd hx hb dX9_planes_162 ?_
                              refine my_eqi (y := nI zc) (my_addN zc 0) ?_
                              refine lv_istore (lv' := [(7, .int (nI zc)), (6, .int (nI a)), (8, .int (nI k)), (5, .int (nI (bN ((plB mt m_taped (plW mt m_taped)) j sp)))), (4, .int (nI j)), (3, .int (nI x)), (2, .int (nI sp)), (1, .int (nI pl)), (0, .ref m0)]) hx hb dX9_planes_163 hl (by decide) rfl (fun ls hl => ?_)
                              refine lv_iinc (v := nI (k + 1)) (lv' := [(8, .int (nI (k + 1))), (7, .int (nI zc)), (6, .int (nI a)), (5, .int (nI (bN ((plB mt m_taped (plW mt m_taped)) j sp)))), (4, .int (nI j)), (3, .int (nI x)), (2, .int (nI sp)), (1, .int (nI pl)), (0, .ref m0)]) hx hb dX9_planes_165 hl (k := 2) rfl (my_incN k 1 (by decide +kernel)) (by decide) rfl (fun ls hl => ?_)
                              refine lv_goto (tgt := 90) hx hb dX9_planes_168 (by decide) ?_
                              exact ih90  (k + 1) zc a (by omega) (by first | assumption | omega | decide +kernel) (by first | assumption | omega | decide +kernel) (by first | assumption | omega | decide +kernel) (by first | assumption | omega | decide +kernel) (by first | assumption | omega | decide +kernel) (by first | exact ct_yes hap (decide_eq_true ⟨by omega, by omega⟩) | exact ct_no hap (decide_eq_false (fun q => by have q1 := q.1; have q2 := q.2; omega))) (by first | exact ct_yes hzp (decide_eq_true (by omega)) | exact ct_no hzp (decide_eq_false (by omega))) _ _ ls hP hD hS (lv_sub hl [0, 1, 2, 3, 4, 5, 6, 7, 8] rfl)
                            ·
                              have d151 : ((bN ((plB mt m_taped (plW mt m_taped)) j k) : Nat) : Int) = (0 : Int) := my_eq c151 (nI_toInt (by omega)) (by decide +kernel)
                              refine lv_iconst (v := 1) hx hb dX9_planes_154 (by decide +kernel) ?_
                              refine lv_goto (tgt := 159) hx hb dX9_planes_155 (by decide) ?_
                              refine my_gpI (my_pS (As := [.int 1]) (rest := [.int (nI zc)]) ⟨hx, hb, hml, hown, hts⟩ (va_cwS 1 hts gX9_planes_X9_flag rfl rfl rfl (by decide +kernel) ⟨Nat.le_of_ble_eq_true rfl, Nat.le_of_ble_eq_true rfl⟩) hN hK hP [] rfl rfl hl.1 rfl (Nat.le_of_ble_eq_true rfl) dX9_planes_159 ⟨Nat.le_of_ble_eq_true rfl, Nat.le_of_ble_eq_true rfl⟩  (k1_X9_flag l D cI cJ cK )) (fun r hp => ?_)
                              obtain rfl := hp
                              refine lv_iadd hx hb dX9_planes_162 ?_
                              refine my_eqi (y := nI (zc + 1)) (my_addN zc 1) ?_
                              refine lv_istore (lv' := [(7, .int (nI (zc + 1))), (6, .int (nI a)), (8, .int (nI k)), (5, .int (nI (bN ((plB mt m_taped (plW mt m_taped)) j sp)))), (4, .int (nI j)), (3, .int (nI x)), (2, .int (nI sp)), (1, .int (nI pl)), (0, .ref m0)]) hx hb dX9_planes_163 hl (by decide) rfl (fun ls hl => ?_)
                              refine lv_iinc (v := nI (k + 1)) (lv' := [(8, .int (nI (k + 1))), (7, .int (nI (zc + 1))), (6, .int (nI a)), (5, .int (nI (bN ((plB mt m_taped (plW mt m_taped)) j sp)))), (4, .int (nI j)), (3, .int (nI x)), (2, .int (nI sp)), (1, .int (nI pl)), (0, .ref m0)]) hx hb dX9_planes_165 hl (k := 2) rfl (my_incN k 1 (by decide +kernel)) (by decide) rfl (fun ls hl => ?_)
                              refine lv_goto (tgt := 90) hx hb dX9_planes_168 (by decide) ?_
                              exact ih90  (k + 1) (zc + 1) a (by omega) (by first | assumption | omega | decide +kernel) (by first | assumption | omega | decide +kernel) (by first | assumption | omega | decide +kernel) (by first | assumption | omega | decide +kernel) (by first | assumption | omega | decide +kernel) (by first | exact ct_yes hap (decide_eq_true ⟨by omega, by omega⟩) | exact ct_no hap (decide_eq_false (fun q => by have q1 := q.1; have q2 := q.2; omega))) (by first | exact ct_yes hzp (decide_eq_true (by omega)) | exact ct_no hzp (decide_eq_false (by omega))) _ _ ls hP hD hS (lv_sub hl [0, 1, 2, 3, 4, 5, 6, 7, 8] rfl)
                          ·
                            have d104 : ((k : Nat) : Int) < ((sp : Nat) : Int) := my_nge c104 (nI_toInt (by omega)) (nI_toInt (by omega))
                            refine lv_aload_n hx hb dX9_planes_107 rfl (lv_at hl 8 rfl) ?_
                            refine va_get (ci := 9) (v := .ref a_readBits) (C := RX9) (T := TX9) (N := 24) hx hb hts hi9 hown hK hP 0 rfl rfl 11 (by decide) fl55 (fun _ h9 => h9) rfl dX9_planes_108 ?_
                            refine lv_bipush (v := 11) hx hb dX9_planes_111 (by decide +kernel) ?_
                            refine lv_iload hx hb dX9_planes_113 (lv_at hl 4 rfl) ?_
                            refine lv_imul hx hb dX9_planes_115 ?_
                            refine my_eqi (y := nI (11 * j)) (my_mulN _ _) ?_
                            refine lv_iload hx hb dX9_planes_116 (lv_at hl 0 rfl) ?_
                            refine lv_iadd hx hb dX9_planes_118 ?_
                            refine my_eqi (y := nI (11 * j + k)) (nI_add _ _) ?_
                            have hblk := bN_le ((plB mt m_taped (plW mt m_taped)) j k)
                            refine va_iald hx hb hK hP 2 0 rfl rfl (vp_in_nI (by omega) (by omega)) dX9_planes_119 ?_
                            refine my_eqi (y := nI (bN ((plB mt m_taped (plW mt m_taped)) j k))) ((congrArg a_readBits_16 (nI_clamp (by omega))).trans (hbB j (by omega) k (by omega))) ?_
                            refine lv_iload hx hb dX9_planes_120 (lv_at hl 3 rfl) ?_
                            refine lv_icmp_ne (tgt := 129) hx hb dX9_planes_122 (by decide) (fun c122 => ?_) (fun c122 => ?_)
                            ·
                              have d122 : ((bN ((plB mt m_taped (plW mt m_taped)) j k) : Nat) : Int) ≠ ((bN ((plB mt m_taped (plW mt m_taped)) j sp) : Nat) : Int) := my_ne c122 (nI_toInt (by omega)) (nI_toInt (by omega))
                              refine lv_iconst (v := 0) hx hb dX9_planes_129 (by decide +kernel) ?_
                              refine my_gpI (my_pS (As := [.int 0]) (rest := [.int (nI a)]) ⟨hx, hb, hml, hown, hts⟩ (va_cwS 1 hts gX9_planes_X9_flag rfl rfl rfl (by decide +kernel) ⟨Nat.le_of_ble_eq_true rfl, Nat.le_of_ble_eq_true rfl⟩) hN hK hP [] rfl rfl hl.1 rfl (Nat.le_of_ble_eq_true rfl) dX9_planes_130 ⟨Nat.le_of_ble_eq_true rfl, Nat.le_of_ble_eq_true rfl⟩  (k0_X9_flag l D cI cJ cK )) (fun r hp => ?_)
                              obtain rfl := hp
                              refine lv_iadd hx hb dX9_planes_133 ?_
                              refine my_eqi (y := nI a) (my_addN a 0) ?_
                              refine lv_istore (lv' := [(6, .int (nI a)), (8, .int (nI k)), (7, .int (nI zc)), (5, .int (nI (bN ((plB mt m_taped (plW mt m_taped)) j sp)))), (4, .int (nI j)), (3, .int (nI x)), (2, .int (nI sp)), (1, .int (nI pl)), (0, .ref m0)]) hx hb dX9_planes_134 hl (by decide) rfl (fun ls hl => ?_)
                              refine lv_iload hx hb dX9_planes_136 (lv_at hl 2 rfl) ?_
                              refine lv_aload_n hx hb dX9_planes_138 rfl (lv_at hl 8 rfl) ?_
                              refine va_get (ci := 9) (v := .ref a_readBits) (C := RX9) (T := TX9) (N := 24) hx hb hts hi9 hown hK hP 0 rfl rfl 11 (by decide) fl55 (fun _ h9 => h9) rfl dX9_planes_139 ?_
                              refine lv_bipush (v := 11) hx hb dX9_planes_142 (by decide +kernel) ?_
                              refine lv_iload hx hb dX9_planes_144 (lv_at hl 4 rfl) ?_
                              refine lv_imul hx hb dX9_planes_146 ?_
                              refine my_eqi (y := nI (11 * j)) (my_mulN _ _) ?_
                              refine lv_iload hx hb dX9_planes_147 (lv_at hl 1 rfl) ?_
                              refine lv_iadd hx hb dX9_planes_149 ?_
                              refine my_eqi (y := nI (11 * j + k)) (nI_add _ _) ?_
                              have hblk := bN_le ((plB mt m_taped (plW mt m_taped)) j k)
                              refine va_iald hx hb hK hP 2 0 rfl rfl (vp_in_nI (by omega) (by omega)) dX9_planes_150 ?_
                              refine my_eqi (y := nI (bN ((plB mt m_taped (plW mt m_taped)) j k))) ((congrArg a_readBits_16 (nI_clamp (by omega))).trans (hbB j (by omega) k (by omega))) ?_
                              refine lv_if_ne (tgt := 158) hx hb dX9_planes_151 (by decide) (fun c151 => ?_) (fun c151 => ?_)
                              ·
                                have d151 : ((bN ((plB mt m_taped (plW mt m_taped)) j k) : Nat) : Int) ≠ (0 : Int) := my_ne c151 (nI_toInt (by omega)) (by decide +kernel)
                                refine lv_iconst (v := 0) hx hb dX9_planes_158 (by decide +kernel) ?_
                                refine my_gpI (my_pS (As := [.int 0]) (rest := [.int (nI zc)]) ⟨hx, hb, hml, hown, hts⟩ (va_cwS 1 hts gX9_planes_X9_flag rfl rfl rfl (by decide +kernel) ⟨Nat.le_of_ble_eq_true rfl, Nat.le_of_ble_eq_true rfl⟩) hN hK hP [] rfl rfl hl.1 rfl (Nat.le_of_ble_eq_true rfl) dX9_planes_159 ⟨Nat.le_of_ble_eq_true rfl, Nat.le_of_ble_eq_true rfl⟩  (k0_X9_flag l D cI cJ cK )) (fun r hp => ?_)
                                obtain rfl := hp
                                refine lv_iadd hx hb dX9_planes_162 ?_
                                refine my_eqi (y := nI zc) (my_addN zc 0) ?_
                                refine lv_istore (lv' := [(7, .int (nI zc)), (6, .int (nI a)), (8, .int (nI k)), (5, .int (nI (bN ((plB mt m_taped (plW mt m_taped)) j sp)))), (4, .int (nI j)), (3, .int (nI x)), (2, .int (nI sp)), (1, .int (nI pl)), (0, .ref m0)]) hx hb dX9_planes_163 hl (by decide) rfl (fun ls hl => ?_)
                                refine lv_iinc (v := nI (k + 1)) (lv' := [(8, .int (nI (k + 1))), (7, .int (nI zc)), (6, .int (nI a)), (5, .int (nI (bN ((plB mt m_taped (plW mt m_taped)) j sp)))), (4, .int (nI j)), (3, .int (nI x)), (2, .int (nI sp)), (1, .int (nI pl)), (0, .ref m0)]) hx hb dX9_planes_165 hl (k := 2) rfl (my_incN k 1 (by decide +kernel)) (by decide) rfl (fun ls hl => ?_)
                                refine lv_goto (tgt := 90) hx hb dX9_planes_168 (by decide) ?_
                                exact ih90  (k + 1) zc a (by omega) (by first | assumption | omega | decide +kernel) (by first | assumption | omega | decide +kernel) (by first | assumption | omega | decide +kernel) (by first | assumption | omega | decide +kernel) (by first | assumption | omega | decide +kernel) (by first | exact ct_yes hap (decide_eq_true ⟨by omega, by omega⟩) | exact ct_no hap (decide_eq_false (fun q => by have q1 := q.1; have q2 := q.2; omega))) (by first | exact ct_yes hzp (decide_eq_true (by omega)) | exact ct_no hzp (decide_eq_false (by omega))) _ _ ls hP hD hS (lv_sub hl [0, 1, 2, 3, 4, 5, 6, 7, 8] rfl)
                              ·
                                have d151 : ((bN ((plB mt m_taped (plW mt m_taped)) j k) : Nat) : Int) = (0 : Int) := my_eq c151 (nI_toInt (by omega)) (by decide +kernel)
                                refine lv_iconst (v := 1) hx hb dX9_planes_154 (by decide +kernel) ?_
                                refine lv_goto (tgt := 159) hx hb dX9_planes_155 (by decide) ?_
                                refine my_gpI (my_pS (As := [.int 1]) (rest := [.int (nI zc)]) ⟨hx, hb, hml, hown, hts⟩ (va_cwS 1 hts gX9_planes_X9_flag rfl rfl rfl (by decide +kernel) ⟨Nat.le_of_ble_eq_true rfl, Nat.le_of_ble_eq_true rfl⟩) hN hK hP [] rfl rfl hl.1 rfl (Nat.le_of_ble_eq_true rfl) dX9_planes_159 ⟨Nat.le_of_ble_eq_true rfl, Nat.le_of_ble_eq_true rfl⟩  (k1_X9_flag l D cI cJ cK )) (fun r hp => ?_)
                                obtain rfl := hp
                                refine lv_iadd hx hb dX9_planes_162 ?_
                                refine my_eqi (y := nI (zc + 1)) (my_addN zc 1) ?_
                                refine lv_istore (lv' := [(7, .int (nI (zc + 1))), (6, .int (nI a)), (8, .int (nI k)), (5, .int (nI (bN ((plB mt m_taped (plW mt m_taped)) j sp)))), (4, .int (nI j)), (3, .int (nI x)), (2, .int (nI sp)), (1, .int (nI pl)), (0, .ref m0)]) hx hb dX9_planes_163 hl (by decide) rfl (fun ls hl => ?_)
                                refine lv_iinc (v := nI (k + 1)) (lv' := [(8, .int (nI (k + 1))), (7, .int (nI (zc + 1))), (6, .int (nI a)), (5, .int (nI (bN ((plB mt m_taped (plW mt m_taped)) j sp)))), (4, .int (nI j)), (3, .int (nI x)), (2, .int (nI sp)), (1, .int (nI pl)), (0, .ref m0)]) hx hb dX9_planes_165 hl (k := 2) rfl (my_incN k 1 (by decide +kernel)) (by decide) rfl (fun ls hl => ?_)
                                refine lv_goto (tgt := 90) hx hb dX9_planes_168 (by decide) ?_
                                exact ih90  (k + 1) (zc + 1) a (by omega) (by first | assumption | omega | decide +kernel) (by first | assumption | omega | decide +kernel) (by first | assumption | omega | decide +kernel) (by first | assumption | omega | decide +kernel) (by first | assumption | omega | decide +kernel) (by first | exact ct_yes hap (decide_eq_true ⟨by omega, by omega⟩) | exact ct_no hap (decide_eq_false (fun q => by have q1 := q.1; have q2 := q.2; omega))) (by first | exact ct_yes hzp (decide_eq_true (by omega)) | exact ct_no hzp (decide_eq_false (by omega))) _ _ ls hP hD hS (lv_sub hl [0, 1, 2, 3, 4, 5, 6, 7, 8] rfl)
                            ·
                              have d122 : ((bN ((plB mt m_taped (plW mt m_taped)) j k) : Nat) : Int) = ((bN ((plB mt m_taped (plW mt m_taped)) j sp) : Nat) : Int) := my_eq c122 (nI_toInt (by omega)) (nI_toInt (by omega))
                              refine lv_iconst (v := 1) hx hb dX9_planes_125 (by decide +kernel) ?_
                              refine lv_goto (tgt := 130) hx hb dX9_planes_126 (by decide) ?_
                              refine my_gpI (my_pS (As := [.int 1]) (rest := [.int (nI a)]) ⟨hx, hb, hml, hown, hts⟩ (va_cwS 1 hts gX9_planes_X9_flag rfl rfl rfl (by decide +kernel) ⟨Nat.le_of_ble_eq_true rfl, Nat.le_of_ble_eq_true rfl⟩) hN hK hP [] rfl rfl hl.1 rfl (Nat.le_of_ble_eq_true rfl) dX9_planes_130 ⟨Nat.le_of_ble_eq_true rfl, Nat.le_of_ble_eq_true rfl⟩  (k1_X9_flag l D cI cJ cK )) (fun r hp => ?_)
                              obtain rfl := hp
                              refine lv_iadd hx hb dX9_planes_133 ?_
                              refine my_eqi (y := nI (a + 1)) (my_addN a 1) ?_
                              refine lv_istore (lv' := [(6, .int (nI (a + 1))), (8, .int (nI k)), (7, .int (nI zc)), (5, .int (nI (bN ((plB mt m_taped (plW mt m_taped)) j sp)))), (4, .int (nI j)), (3, .int (nI x)), (2, .int (nI sp)), (1, .int (nI pl)), (0, .ref m0)]) hx hb dX9_planes_134 hl (by decide) rfl (fun ls hl => ?_)
                              refine lv_iload hx hb dX9_planes_136 (lv_at hl 2 rfl) ?_
                              refine lv_aload_n hx hb dX9_planes_138 rfl (lv_at hl 8 rfl) ?_
                              refine va_get (ci := 9) (v := .ref a_readBits) (C := RX9) (T := TX9) (N := 24) hx hb hts hi9 hown hK hP 0 rfl rfl 11 (by decide) fl55 (fun _ h9 => h9) rfl dX9_planes_139 ?_
                              refine lv_bipush (v := 11) hx hb dX9_planes_142 (by decide +kernel) ?_
                              refine lv_iload hx hb dX9_planes_144 (lv_at hl 4 rfl) ?_
                              refine lv_imul hx hb dX9_planes_146 ?_
                              refine my_eqi (y := nI (11 * j)) (my_mulN _ _) ?_
                              refine lv_iload hx hb dX9_planes_147 (lv_at hl 1 rfl) ?_
                              refine lv_iadd hx hb dX9_planes_149 ?_
                              refine my_eqi (y := nI (11 * j + k)) (nI_add _ _) ?_
                              have hblk := bN_le ((plB mt m_taped (plW mt m_taped)) j k)
                              refine va_iald hx hb hK hP 2 0 rfl rfl (vp_in_nI (by omega) (by omega)) dX9_planes_150 ?_
                              refine my_eqi (y := nI (bN ((plB mt m_taped (plW mt m_taped)) j k))) ((congrArg a_readBits_16 (nI_clamp (by omega))).trans (hbB j (by omega) k (by omega))) ?_
                              refine lv_if_ne (tgt := 158) hx hb dX9_planes_151 (by decide) (fun c151 => ?_) (fun c151 => ?_)
                              ·
                                have d151 : ((bN ((plB mt m_taped (plW mt m_taped)) j k) : Nat) : Int) ≠ (0 : Int) := my_ne c151 (nI_toInt (by omega)) (by decide +kernel)
                                refine lv_iconst (v := 0) hx hb dX9_planes_158 (by decide +kernel) ?_
                                refine my_gpI (my_pS (As := [.int 0]) (rest := [.int (nI zc)]) ⟨hx, hb, hml, hown, hts⟩ (va_cwS 1 hts gX9_planes_X9_flag rfl rfl rfl (by decide +kernel) ⟨Nat.le_of_ble_eq_true rfl, Nat.le_of_ble_eq_true rfl⟩) hN hK hP [] rfl rfl hl.1 rfl (Nat.le_of_ble_eq_true rfl) dX9_planes_159 ⟨Nat.le_of_ble_eq_true rfl, Nat.le_of_ble_eq_true rfl⟩  (k0_X9_flag l D cI cJ cK )) (fun r hp => ?_)
                                obtain rfl := hp
                                refine lv_iadd hx hb dX9_planes_162 ?_
                                refine my_eqi (y := nI zc) (my_addN zc 0) ?_
                                refine lv_istore (lv' := [(7, .int (nI zc)), (6, .int (nI (a + 1))), (8, .int (nI k)), (5, .int (nI (bN ((plB mt m_taped (plW mt m_taped)) j sp)))), (4, .int (nI j)), (3, .int (nI x)), (2, .int (nI sp)), (1, .int (nI pl)), (0, .ref m0)]) hx hb dX9_planes_163 hl (by decide) rfl (fun ls hl => ?_)
                                refine lv_iinc (v := nI (k + 1)) (lv' := [(8, .int (nI (k + 1))), (7, .int (nI zc)), (6, .int (nI (a + 1))), (5, .int (nI (bN ((plB mt m_taped (plW mt m_taped)) j sp)))), (4, .int (nI j)), (3, .int (nI x)), (2, .int (nI sp)), (1, .int (nI pl)), (0, .ref m0)]) hx hb dX9_planes_165 hl (k := 2) rfl (my_incN k 1 (by decide +kernel)) (by decide) rfl (fun ls hl => ?_)
                                refine lv_goto (tgt := 90) hx hb dX9_planes_168 (by decide) ?_
                                exact ih90  (k + 1) zc (a + 1) (by omega) (by first | assumption | omega | decide +kernel) (by first | assumption | omega | decide +kernel) (by first | assumption | omega | decide +kernel) (by first | assumption | omega | decide +kernel) (by first | assumption | omega | decide +kernel) (by first | exact ct_yes hap (decide_eq_true ⟨by omega, by omega⟩) | exact ct_no hap (decide_eq_false (fun q => by have q1 := q.1; have q2 := q.2; omega))) (by first | exact ct_yes hzp (decide_eq_true (by omega)) | exact ct_no hzp (decide_eq_false (by omega))) _ _ ls hP hD hS (lv_sub hl [0, 1, 2, 3, 4, 5, 6, 7, 8] rfl)
                              ·
                                have d151 : ((bN ((plB mt m_taped (plW mt m_taped)) j k) : Nat) : Int) = (0 : Int) := my_eq c151 (nI_toInt (by omega)) (by decide +kernel)
                                refine lv_iconst (v := 1) hx hb dX9_planes_154 (by decide +kernel) ?_
                                refine lv_goto (tgt := 159) hx hb dX9_planes_155 (by decide) ?_
                                refine my_gpI (my_pS (As := [.int 1]) (rest := [.int (nI zc)]) ⟨hx, hb, hml, hown, hts⟩ (va_cwS 1 hts gX9_planes_X9_flag rfl rfl rfl (by decide +kernel) ⟨Nat.le_of_ble_eq_true rfl, Nat.le_of_ble_eq_true rfl⟩) hN hK hP [] rfl rfl hl.1 rfl (Nat.le_of_ble_eq_true rfl) dX9_planes_159 ⟨Nat.le_of_ble_eq_true rfl, Nat.le_of_ble_eq_true rfl⟩  (k1_X9_flag l D cI cJ cK )) (fun r hp => ?_)
                                obtain rfl := hp
                                refine lv_iadd hx hb dX9_planes_162 ?_
                                refine my_eqi (y := nI (zc + 1)) (my_addN zc 1) ?_
                                refine lv_istore (lv' := [(7, .int (nI (zc + 1))), (6, .int (nI (a + 1))), (8, .int (nI k)), (5, .int (nI (bN ((plB mt m_taped (plW mt m_taped)) j sp)))), (4, .int (nI j)), (3, .int (nI x)), (2, .int (nI sp)), (1, .int (nI pl)), (0, .ref m0)]) hx hb dX9_planes_163 hl (by decide) rfl (fun ls hl => ?_)
                                refine lv_iinc (v := nI (k + 1)) (lv' := [(8, .int (nI (k + 1))), (7, .int (nI (zc + 1))), (6, .int (nI (a + 1))), (5, .int (nI (bN ((plB mt m_taped (plW mt m_taped)) j sp)))), (4, .int (nI j)), (3, .int (nI x)), (2, .int (nI sp)), (1, .int (nI pl)), (0, .ref m0)]) hx hb dX9_planes_165 hl (k := 2) rfl (my_incN k 1 (by decide +kernel)) (by decide) rfl (fun ls hl => ?_)
                                refine lv_goto (tgt := 90) hx hb dX9_planes_168 (by decide) ?_
                                exact ih90  (k + 1) (zc + 1) (a + 1) (by omega) (by first | assumption | omega | decide +kernel) (by first | assumption | omega | decide +kernel) (by first | assumption | omega | decide +kernel) (by first | assumption | omega | decide +kernel) (by first | assumption | omega | decide +kernel) (by first | exact ct_yes hap (decide_eq_true ⟨by omega, by omega⟩) | exact ct_no hap (decide_eq_false (fun q => by have q1 := q.1; have q2 := q.2; omega))) (by first | exact ct_yes hzp (decide_eq_true (by omega)) | exact ct_no hzp (decide_eq_false (by omega))) _ _ ls hP hD hS (lv_sub hl [0, 1, 2, 3, 4, 5, 6, 7, 8] rfl)
                    exact loop90 ((11 - 0) + 1) 0 0 0 (Nat.lt_succ_self _) (by first | assumption | omega | decide +kernel) (by first | assumption | omega | decide +kernel) (by first | assumption | omega | decide +kernel) (by first | assumption | omega | decide +kernel) (by first | assumption | omega | decide +kernel) (rfl) (rfl) _ _ ls hP hD hS (lv_sub hl [0, 1, 2, 3, 4, 5, 6, 7, 8] rfl)
              exact loop60 ((8 - 0) + 1) 0 0 pl (Nat.lt_succ_self _) (by first | assumption | omega | decide +kernel) (by first | assumption | omega | decide +kernel) (rfl) (rfl) _ _ ls hP hD hS (lv_sub hl [0, 1, 2, 3, 4] rfl)
        exact loop45 ((11 - 0) + 1) 0 md (Nat.lt_succ_self _) (by first | assumption | omega | decide +kernel) (fun q h => absurd h (Nat.not_lt_zero q)) hR_md _ _ ls hP hD hS (lv_sub hl [0, 1] rfl)
      ·
        have d19 : ((k : Nat) : Int) < (8 : Int) := my_nge c19 (nI_toInt (by omega)) (by decide +kernel)
        refine lv_aload_n hx hb dX9_planes_22 rfl (lv_at hl 1 rfl) ?_
        refine lv_iload_n hx hb dX9_planes_23 rfl (lv_at hl 0 rfl) ?_
        refine my_goIS (wc := (wl_k_X9_readsRow cI cJ cK m0 a_row a_tape a_number a_read a_readBits a_stands a_parted a_bitsWere a_stood a_chosen a_bestChosen a_often a_sorted a_risen a_risenWays 0 (nI m_told) 0 (nI m0_at_16) (nI m_taped) (nI m_many) (nI m0_readMany_16) m_fewest (nI m_size) mt a_readBits_16)) hP hD hS hA [0, 1, 2] rfl [some 0, some 1, some 2] (by decide +kernel) (my_cV (As := [.int (nI k)]) (rest := []) (ci := 9) (wc := (wl_k_X9_readsRow cI cJ cK m0 a_row a_tape a_number a_read a_readBits a_stands a_parted a_bitsWere a_stood a_chosen a_bestChosen a_often a_sorted a_risen a_risenWays 0 (nI m_told) 0 (nI m0_at_16) (nI m_taped) (nI m_many) (nI m0_readMany_16) m_fewest (nI m_size) mt a_readBits_16)) ⟨hx, hb, hml, hown, hts⟩ (cwV 1 hts gX9_planes_X9_readsRow rfl rfl rfl (by decide +kernel) ⟨Nat.le_of_ble_eq_true rfl, Nat.le_of_ble_eq_true rfl⟩) hN hK hP hD [0, 1, 2] rfl (by decide) rfl 0 rfl rfl rfl rfl hl.1 rfl (Nat.le_of_ble_eq_true rfl) dX9_planes_24 ⟨Nat.le_of_ble_eq_true rfl, Nat.le_of_ble_eq_true rfl⟩  ((k_X9_readsRow l D cI cJ cK m0 a_row a_tape a_number a_read a_readBits a_stands a_parted a_bitsWere a_stood a_chosen a_bestChosen a_often a_sorted a_risen a_risenWays (0 : Int32) m_told 0 m0_at_16 m_taped m_many m0_readMany_16 m_fewest m_size mt a_readBits_16 k (by first | assumption | omega | decide +kernel) (by first | assumption | omega | decide +kernel) (by first | assumption | omega | decide +kernel) (by first | assumption | omega | decide +kernel) (by first | assumption | omega | decide +kernel) (by first | assumption | omega | decide +kernel) (by first | assumption | omega | decide +kernel) hR_mt hR_a_readBits_16 (by first | assumption | omega | decide +kernel) (by first | assumption | omega | decide +kernel) (by first | assumption | omega | decide +kernel)) _)) (fun r u H locs hp hPD hS => ?_)
        rcases hp with ⟨m_at_7, m_readMany_8, mb_9, rfl, rfl, hhz_m_at_10, hhz_m_readMany_11, hR_mb_9, hm_12, hr1, hr2, hr3, hr4, hq_13, hrb, hro⟩ | ⟨m_at_14, m_readMany_15, mb_16, rfl, rfl, hhz_m_at_17, hhz_m_readMany_18, hR_mb_16, hm_19, hr1, hr2, hr0, hr3, hq_20⟩
        ·
          obtain ⟨hP, hD⟩ := hPD rfl
          have hP : va_P D vwCl (wl_k_X9_planes cI cJ cK m0 a_row a_tape a_number a_read a_readBits a_stands a_parted a_bitsWere a_stood a_chosen a_bestChosen a_often a_sorted a_risen a_risenWays 0 (nI m_told) 0 (nI m_at_7) (nI m_taped) (nI m_many) (nI m_readMany_8) m_fewest (nI m_size) mt mb_9 md mn) H := hP
          have hD : va_D A (wl_k_X9_planes cI cJ cK m0 a_row a_tape a_number a_read a_readBits a_stands a_parted a_bitsWere a_stood a_chosen a_bestChosen a_often a_sorted a_risen a_risenWays 0 (nI m_told) 0 (nI m_at_7) (nI m_taped) (nI m_many) (nI m_readMany_8) m_fewest (nI m_size) mt mb_9 md mn) := hD
          have hrow : blen mt m_taped (rmo k m0_readMany_16) m0_at_16 = blen mt m_taped (plW mt m_taped) (plA (plW mt m_taped) k) := by rcases rmo_or k m0_readMany_16 with ⟨h, e⟩ | ⟨h, e⟩; (rw [e, hpA (by omega), h, plW_0, plA_0]; rfl); (rw [e, hpA (by omega), show m0_readMany_16 = (plW mt m_taped) from (by omega)])
          refine lv_if_ne (tgt := 37) hx hb dX9_planes_27 (by decide) (fun c27 => ?_) (fun c27 => ?_)
          ·
            have hkw : m_readMany_8 = (plW mt m_taped) := by by_cases h0 : k = 0; (rw [hr1, hrow, h0]; exact plW_0 mt m_taped); (have h9 := hr2 h0; omega)
            refine lv_iinc (v := nI (k + 1)) (lv' := [(1, .int (nI (k + 1))), (0, .ref m0)]) hx hb dX9_planes_37 hl (k := 0) rfl (my_incN k 1 (by decide +kernel)) (by decide) rfl (fun ls hl => ?_)
            refine lv_goto (tgt := 16) hx hb dX9_planes_40 (by decide) ?_
            exact ih16  (k + 1) m_at_7 m_readMany_8 mb_9 (by omega) (by first | assumption | omega | decide +kernel) (by first | assumption | omega | decide +kernel) (by first | assumption | omega | decide +kernel) (fun h9 => by rw [plA_s, ← hpA (by omega)]; have h8 := hr3 (by omega); omega) (Or.inr (by omega)) (fun q hq => by rcases Nat.lt_succ_iff_lt_or_eq.mp hq with h | h; (exact hOk q h); (rw [h]; exact row_mk (hpA (by omega)) (hr1.trans hrow) hkw (fun h9 => ⟨(hr3 h9).1, (hr3 h9).2.1⟩) (fun h9 => by have h8 := hr4 h9; omega))) (fun q hq i hi => by rcases Nat.lt_succ_iff_lt_or_eq.mp hq with h | h; (rw [hro _ (by omega)]; exact hbB q h i (by have h9 := hr2 (by omega); omega)); (rw [h]; exact rb_row (hpA (by omega)) hr1 hrb i hi)) (by first | assumption | omega | decide +kernel) (by first | assumption | omega | decide +kernel) hR_mb_9 _ _ ls hP hD hS (lv_sub hl [0, 1] rfl)
          ·
            exact absurd c27 (by decide +kernel)
        ·
          obtain ⟨hP, hD⟩ := hPD rfl
          have hP : va_P D vwCl (wl_k_X9_planes cI cJ cK m0 a_row a_tape a_number a_read a_readBits a_stands a_parted a_bitsWere a_stood a_chosen a_bestChosen a_often a_sorted a_risen a_risenWays 0 (nI m_told) 0 (nI m_at_14) (nI m_taped) (nI m_many) (nI m_readMany_15) m_fewest (nI m_size) mt mb_16 md mn) H := hP
          have hD : va_D A (wl_k_X9_planes cI cJ cK m0 a_row a_tape a_number a_read a_readBits a_stands a_parted a_bitsWere a_stood a_chosen a_bestChosen a_often a_sorted a_risen a_risenWays 0 (nI m_told) 0 (nI m_at_14) (nI m_taped) (nI m_many) (nI m_readMany_15) m_fewest (nI m_size) mt mb_16 md mn) := hD
          have hrow : blen mt m_taped (rmo k m0_readMany_16) m0_at_16 = blen mt m_taped (plW mt m_taped) (plA (plW mt m_taped) k) := by rcases rmo_or k m0_readMany_16 with ⟨h, e⟩ | ⟨h, e⟩; (rw [e, hpA (by omega), h, plW_0, plA_0]; rfl); (rw [e, hpA (by omega), show m0_readMany_16 = (plW mt m_taped) from (by omega)])
          refine lv_if_ne (tgt := 37) hx hb dX9_planes_27 (by decide) (fun c27 => ?_) (fun c27 => ?_)
          ·
            exact absurd c27 (by decide +kernel)
          ·
            refine lv_iconst (v := (-1)) hx hb dX9_planes_30 (by decide +kernel) ?_
            refine lv_aload_n hx hb dX9_planes_31 rfl (lv_at hl 1 rfl) ?_
            refine va_get (ci := 9) (v := .int (nI m_at_14)) (C := RX9) (T := TX9) (N := 24) hx hb hts hi9 hown hK hP 0 rfl rfl 5 (by decide) fl28 (fun _ h9 => h9) rfl dX9_planes_32 ?_
            refine lv_isub hx hb dX9_planes_35 ?_
            refine lv_topi (fun z_21 ez_21 => ?_)
            try have tz_21 : z_21.toInt = (-1 : Int) - ((m_at_14 : Nat) : Int) := by rw [ez_21]; exact my_subI (by decide +kernel) (nI_toInt (by omega)) (by omega) (by omega)
            exact my_retI hx hb hr hlocks hK hS (wl_k_X9_planes cI cJ cK m0 a_row a_tape a_number a_read a_readBits a_stands a_parted a_bitsWere a_stood a_chosen a_bestChosen a_often a_sorted a_risen a_risenWays 0 (nI m_told) 0 (nI m_at_14) (nI m_taped) (nI m_many) (nI m_readMany_15) m_fewest (nI m_size) mt mb_16 md mn) hP hD (Or.inr (⟨0, 0, m_at_14, m_taped, m_readMany_15, mb_16, rfl, (by first | assumption | omega | trivial | decide +kernel), (by first | assumption | omega | trivial | decide +kernel), (by first | assumption | omega | trivial | decide +kernel), (by first | assumption | omega | trivial | decide +kernel), hR_mb_16, (by first | assumption | omega | trivial | decide +kernel), ⟨_, ⟨k, by omega, hOk, fun h => (by have h9 := row_no (hpA (by omega)) hrow h; rw [hr1] at hr3; rcases hr3 with h3 | ⟨h3, h4⟩ | ⟨h3, h4⟩; (by_cases h0 : k = 0; (have h8 := hr0 h0; omega); (have h8 := hr2 h0; omega)); (have h8 := h9.2.1 h3; omega); (have h8 := h9.2.2 h3; omega)), rfl⟩, by have h8 := hpA (by omega); rw [hrow] at hr1; omega⟩⟩)) dX9_planes_36
  exact loop16 ((8 - 0) + 1) 0 0 0 mb (Nat.lt_succ_self _) (by first | assumption | omega | decide +kernel) (by first | assumption | omega | decide +kernel) (by first | assumption | omega | decide +kernel) (fun _ => (plA_0 _).symm) (by first | assumption | omega | decide +kernel) (fun q h => absurd h (Nat.not_lt_zero q)) (fun q h => absurd h (Nat.not_lt_zero q)) (by first | assumption | omega | decide +kernel) (by first | assumption | omega | decide +kernel) hR_mb _ _ ls hP hD hS (lv_sub hl [0, 1] rfl)
set_option maxHeartbeats 4000000 in
set_option maxRecDepth 100000 in
theorem kf_X9_bitOf (l : Launch) (D : va_G) (cI cJ cK : ClassId) (v : Nat) (j : Nat) (hv : v ≤ 255) (hj : j ≤ 7) : cpI l yX9_bitOf wsX9_bitOf ({ frames := 0, cells := 0, slots := 0, locals := 0 } : Room) D (tyIJ cI cJ cK) [.int (nI v), .int (nI j)] [] (fun (r : Int32) => ∃ (k' : Nat), r = nI k' ∧ k' = bN (v.testBit (7 - j)) ∧ k' ≤ 1) := by
  refine cpI.of (cc := cX9_bitOf) (maxL := 2) (ret := (some .int)) (by decide) rfl (Nat.le_of_ble_eq_true rfl) ?_
  intro p e s m below meth c ls hx hb hr hts hown hml hlocks hname hK hN hP hl
  have hl : lv_has ls 2 [(0, .int (nI v)), (1, .int (nI j))] := hl
  have hown : s.vm.findClass RX9 = some m.cls := hown
  refine lv_iload_n hx hb dX9_bitOf_0 rfl (lv_at hl 0 rfl) ?_
  refine lv_bipush (v := 7) hx hb dX9_bitOf_1 (by decide +kernel) ?_
  refine lv_iload_n hx hb dX9_bitOf_3 rfl (lv_at hl 1 rfl) ?_
  refine lv_isub hx hb dX9_bitOf_4 ?_
  refine my_eqi (y := nI (7 - j)) (my_subN (a := 7) (b := j) (by omega)) ?_
  refine lv_ishr hx hb dX9_bitOf_5 ?_
  refine my_eqi (y := nI (v / 2 ^ (7 - j))) (my_shrG (by omega) (by omega)) ?_
  refine lv_iconst (v := 1) hx hb dX9_bitOf_6 (by decide +kernel) ?_
  refine lv_iand hx hb dX9_bitOf_7 ?_
  refine my_eqi (y := nI ((v / 2 ^ (7 - j)) % 2)) (my_maskN _ 1) ?_
  have hbn := bN_le (v.testBit (7 - j))
  exact my_rpI hx hb hr hlocks (⟨(bN (v.testBit (7 - j))), (congrArg nI (bn_tb v (7 - j))), rfl, hbn⟩) dX9_bitOf_8
set_option maxHeartbeats 4000000 in
set_option maxRecDepth 100000 in
theorem k_X9_bitOf (l : Launch) (D : va_G) (cI cJ cK : ClassId) (v9 : Int32) (j9 : Int32) : cpI l yX9_bitOf wsX9_bitOf ({ frames := 0, cells := 0, slots := 0, locals := 0 } : Room) D (tyIJ cI cJ cK) [.int v9, .int j9] [] (fun (r : Int32) => 0 ≤ r.toInt ∧ r.toInt ≤ 1) := by
  refine cpI.of (cc := cX9_bitOf) (maxL := 2) (ret := (some .int)) (by decide) rfl (Nat.le_of_ble_eq_true rfl) ?_
  intro p e s m below meth c ls hx hb hr hts hown hml hlocks hname hK hN hP hl
  have hl : lv_has ls 2 [(0, .int v9), (1, .int j9)] := hl
  have hown : s.vm.findClass RX9 = some m.cls := hown
  refine lv_iload_n hx hb dX9_bitOf_0 rfl (lv_at hl 0 rfl) ?_
  refine lv_bipush (v := 7) hx hb dX9_bitOf_1 (by decide +kernel) ?_
  refine lv_iload_n hx hb dX9_bitOf_3 rfl (lv_at hl 1 rfl) ?_
  refine lv_isub hx hb dX9_bitOf_4 ?_
  refine lv_topi (fun z_1 ez_1 => ?_)
  try have tz_1 : z_1.toInt = (7 : Int) - j9.toInt := by rw [ez_1]; exact my_subI (by decide +kernel) rfl (by omega) (by omega)
  refine lv_ishr hx hb dX9_bitOf_5 ?_
  refine lv_topi (fun z_2 ez_2 => ?_)
  refine lv_iconst (v := 1) hx hb dX9_bitOf_6 (by decide +kernel) ?_
  refine lv_iand hx hb dX9_bitOf_7 ?_
  refine lv_topi (fun z_3 ez_3 => ?_)
  have hbz_3 : 0 ≤ z_3.toInt ∧ z_3.toInt ≤ 1 := by rw [ez_3]; exact my_andR (by decide +kernel) (by decide +kernel)
  exact my_rpI hx hb hr hlocks (⟨(by first | assumption | omega | trivial | decide +kernel), (by first | assumption | omega | trivial | decide +kernel)⟩) dX9_bitOf_8
abbrev wl_k_X9_begins (cI cJ cK : ClassId) (m0 : Nat) (a_row : Nat) (a_tape : Nat) (a_number : Nat) (a_read : Nat) (a_readBits : Nat) (a_stands : Nat) (a_parted : Nat) (a_bitsWere : Nat) (a_stood : Nat) (a_chosen : Nat) (a_bestChosen : Nat) (a_often : Nat) (a_sorted : Nat) (a_risen : Nat) (a_risenWays : Nat) (v0_ : Int32) (v1_ : Int32) (v2_ : Int32) (v3_ : Int32) (v4_ : Int32) (v5_ : Int32) (v6_ : Int32) (v7_ : Int32) (v8_ : Int32) (v9_ : Nat → Int32) : va_W := [(m0, .inr (9, [.int v0_, .int v1_, .ref a_row, .ref a_tape, .int v2_, .int v3_, .int v4_, .int v5_, .ref a_number, .ref a_read, .int v6_, .ref a_readBits, .ref a_stands, .ref a_parted, .ref a_bitsWere, .ref a_stood, .ref a_chosen, .ref a_bestChosen, .int v7_, .ref a_often, .ref a_sorted, .int v8_, .ref a_risen, .ref a_risenWays])), (a_stands, .inl (cI, 64, .inl v9_))]
set_option maxHeartbeats 4000000 in
set_option maxRecDepth 100000 in
theorem k_X9_begins (l : Launch) (D : va_G) (cI cJ cK : ClassId) (m0 : Nat) (a_row : Nat) (a_tape : Nat) (a_number : Nat) (a_read : Nat) (a_readBits : Nat) (a_stands : Nat) (a_parted : Nat) (a_bitsWere : Nat) (a_stood : Nat) (a_chosen : Nat) (a_bestChosen : Nat) (a_often : Nat) (a_sorted : Nat) (a_risen : Nat) (a_risenWays : Nat) (m_thrown : Int32) (m_told : Nat) (m_taped : Nat) (m_at : Nat) (m_to : Nat) (m_many : Nat) (m_readMany : Nat) (m_fewest : Int32) (m_size : Nat) (ms : Nat → Int32) (hz_m_told : m_told ≤ 64) (hz_m_taped : m_taped ≤ 100) (hz_m_at : m_at ≤ 100) (hz_m_to : m_to ≤ 100) (hz_m_many : m_many ≤ 64) (hz_m_readMany : m_readMany ≤ 64) (hz_m_size : m_size ≤ 64) (hR_ms : RB 0 63 ms) : ctV l yX9_begins wsX9_begins ({ frames := 0, cells := 0, slots := 0, locals := 0 } : Room) D (tyIJ cI cJ cK) [.ref m0] (wl_k_X9_begins cI cJ cK m0 a_row a_tape a_number a_read a_readBits a_stands a_parted a_bitsWere a_stood a_chosen a_bestChosen a_often a_sorted a_risen a_risenWays m_thrown (nI m_told) (nI m_taped) (nI m_at) (nI m_to) (nI m_many) (nI m_readMany) m_fewest (nI m_size) ms) (fun (u : va_W) => ∃ (ms' : Nat → Int32), u = (wl_k_X9_begins cI cJ cK m0 a_row a_tape a_number a_read a_readBits a_stands a_parted a_bitsWere a_stood a_chosen a_bestChosen a_often a_sorted a_risen a_risenWays m_thrown (nI m_told) (nI m_taped) (nI m_at) (nI m_to) (nI m_many) (nI m_readMany) m_fewest (nI m_size) ms') ∧ RB 0 63 ms' ∧ (∀ p, p < m_many → ms' p = nI p)) := by
  refine ctV.of (cc := cX9_begins) (maxL := 2) (ret := none) (by decide) rfl (Nat.le_of_ble_eq_true rfl) ?_
  intro p e s m below meth c ls A hx hb hr hts hown hml hlocks hname hA hK hN hP hD hS hl
  have hl : lv_has ls 2 [(0, .ref m0)] := hl
  have hown : s.vm.findClass RX9 = some m.cls := hown
  have hi9 : ∀ w ∈ u_ws RX9 TX9 24, w ∈ wsX9_begins := by decide +kernel
  have fl58 := hts (.fieldLink RX9 58 "PlaneColumnModel" "stands" "[I") (by decide +kernel)
  have fl88 := hts (.fieldLink RX9 88 "PlaneColumnModel" "many" "I") (by decide +kernel)
  refine lv_iconst (v := 0) hx hb dX9_begins_0 (by decide +kernel) ?_
  refine lv_istore_n (lv' := [(1, .int 0), (0, .ref m0)]) hx hb dX9_begins_1 rfl hl (by decide) rfl (fun ls hl => ?_)
  have loop2 : ∀ (n9 : Nat) (k : Nat) (a_stands_2 : Nat → Int32), m_many - k < n9 → (k ≤ m_many) → (∀ p, p < k → a_stands_2 p = nI p) → (RB 0 63 a_stands_2) → ∀ (H : Heap) (locs : List Loc) (ls : Array Slot), va_P D vwCl (wl_k_X9_begins cI cJ cK m0 a_row a_tape a_number a_read a_readBits a_stands a_parted a_bitsWere a_stood a_chosen a_bestChosen a_often a_sorted a_risen a_risenWays m_thrown (nI m_told) (nI m_taped) (nI m_at) (nI m_to) (nI m_many) (nI m_readMany) m_fewest (nI m_size) a_stands_2) H → va_D A (wl_k_X9_begins cI cJ cK m0 a_row a_tape a_number a_read a_readBits a_stands a_parted a_bitsWere a_stood a_chosen a_bestChosen a_often a_sorted a_risen a_risenWays m_thrown (nI m_told) (nI m_taped) (nI m_at) (nI m_to) (nI m_many) (nI m_readMany) m_fewest (nI m_size) a_stands_2) → va_S A s.heap H locs → lv_has ls 2 [(1, .int (nI k)), (0, .ref m0)] → W p l e ({ frames := 0, cells := 0, slots := 0, locals := 0 } : Room) s m [.ref m0].toArray below meth c H locs 0 0 (MQ below (va_Qv (fun (u : va_W) => ∃ (ms' : Nat → Int32), u = (wl_k_X9_begins cI cJ cK m0 a_row a_tape a_number a_read a_readBits a_stands a_parted a_bitsWere a_stood a_chosen a_bestChosen a_often a_sorted a_risen a_risenWays m_thrown (nI m_told) (nI m_taped) (nI m_at) (nI m_to) (nI m_many) (nI m_readMany) m_fewest (nI m_size) ms') ∧ RB 0 63 ms' ∧ (∀ p, p < m_many → ms' p = nI p)) (my_B D (tyIJ cI cJ cK) A) A) [.ref m0].toArray s 0 0 A) (F0 m 2 ls []) := by
    intro n9
    induction n9 with
    | zero =>
      intro k a_stands_2 hn9
      exact absurd hn9 (Nat.not_lt_zero _)
    | succ n9 ih2 =>
      intro k a_stands_2 hn9 hk_k hk0 hR_a_stands_2 H locs ls hP hD hS hl
      refine lv_iload_n hx hb dX9_begins_2 rfl (lv_at hl 0 rfl) ?_
      refine lv_aload_n hx hb dX9_begins_3 rfl (lv_at hl 1 rfl) ?_
      refine va_get (ci := 9) (v := .int (nI m_many)) (C := RX9) (T := TX9) (N := 24) hx hb hts hi9 hown hK hP 0 rfl rfl 7 (by decide) fl88 (fun _ h9 => h9) rfl dX9_begins_4 ?_
      refine lv_icmp_ge (tgt := 23) hx hb dX9_begins_7 (by decide) (fun c7 => ?_) (fun c7 => ?_)
      ·
        have d7 : ((k : Nat) : Int) ≥ ((m_many : Nat) : Int) := my_ge c7 (nI_toInt (by omega)) (nI_toInt (by omega))
        exact my_retV hx hb hr hlocks hK hS (wl_k_X9_begins cI cJ cK m0 a_row a_tape a_number a_read a_readBits a_stands a_parted a_bitsWere a_stood a_chosen a_bestChosen a_often a_sorted a_risen a_risenWays m_thrown (nI m_told) (nI m_taped) (nI m_at) (nI m_to) (nI m_many) (nI m_readMany) m_fewest (nI m_size) a_stands_2) hP hD (⟨a_stands_2, rfl, hR_a_stands_2, (fun p h => hk0 p (by omega))⟩) dX9_begins_23
      ·
        have d7 : ((k : Nat) : Int) < ((m_many : Nat) : Int) := my_nge c7 (nI_toInt (by omega)) (nI_toInt (by omega))
        refine lv_aload_n hx hb dX9_begins_10 rfl (lv_at hl 1 rfl) ?_
        refine va_get (ci := 9) (v := .ref a_stands) (C := RX9) (T := TX9) (N := 24) hx hb hts hi9 hown hK hP 0 rfl rfl 12 (by decide) fl58 (fun _ h9 => h9) rfl dX9_begins_11 ?_
        refine lv_iload_n hx hb dX9_begins_14 rfl (lv_at hl 0 rfl) ?_
        refine lv_iload_n hx hb dX9_begins_15 rfl (lv_at hl 0 rfl) ?_
        refine va_iast hx hb hK hP hD hS 1 0 rfl rfl (vp_in_nI (by omega) (by omega)) dX9_begins_16 (fun H locs hP hD hS => ?_)
        obtain ⟨g_1, eg_1⟩ : ∃ g : Nat → Int32, g = upd a_stands_2 k (nI k) := ⟨_, rfl⟩
        have eU : upd a_stands_2 (nI k : Int32).toNatClampNeg (nI k) = g_1 := by rw [eg_1, show (nI k : Int32).toNatClampNeg = k from nI_clamp (by omega)]
        rw [eU] at hP hD
        have hR_g_1 : RB 0 63 g_1 := by rw [eg_1]; exact hR_a_stands_2.upd (nI_toInt (by omega)) (by omega) (by omega)
        have hP : va_P D vwCl (wl_k_X9_begins cI cJ cK m0 a_row a_tape a_number a_read a_readBits a_stands a_parted a_bitsWere a_stood a_chosen a_bestChosen a_often a_sorted a_risen a_risenWays m_thrown (nI m_told) (nI m_taped) (nI m_at) (nI m_to) (nI m_many) (nI m_readMany) m_fewest (nI m_size) g_1) H := hP
        have hD : va_D A (wl_k_X9_begins cI cJ cK m0 a_row a_tape a_number a_read a_readBits a_stands a_parted a_bitsWere a_stood a_chosen a_bestChosen a_often a_sorted a_risen a_risenWays m_thrown (nI m_told) (nI m_taped) (nI m_at) (nI m_to) (nI m_many) (nI m_readMany) m_fewest (nI m_size) g_1) := hD
        refine lv_iinc (v := nI (k + 1)) (lv' := [(1, .int (nI (k + 1))), (0, .ref m0)]) hx hb dX9_begins_17 hl (k := 0) rfl (my_incN k 1 (by decide +kernel)) (by decide) rfl (fun ls hl => ?_)
        refine lv_goto (tgt := 2) hx hb dX9_begins_20 (by decide) ?_
        exact ih2  (k + 1) g_1 (by omega) (by first | assumption | omega | decide +kernel) (bg_step (by assumption) hk0) hR_g_1 _ _ ls hP hD hS (lv_sub hl [0, 1] rfl)
  exact loop2 ((m_many - 0) + 1) 0 ms (Nat.lt_succ_self _) (by first | assumption | omega | decide +kernel) (fun p h => absurd h (Nat.not_lt_zero p)) hR_ms _ _ ls hP hD hS (lv_sub hl [0, 1] rfl)
abbrev wl_k_X9_parts (cI cJ cK : ClassId) (m0 : Nat) (a_row : Nat) (a_tape : Nat) (a_number : Nat) (a_read : Nat) (a_readBits : Nat) (a_stands : Nat) (a_parted : Nat) (a_bitsWere : Nat) (a_stood : Nat) (a_chosen : Nat) (a_bestChosen : Nat) (a_often : Nat) (a_sorted : Nat) (a_risen : Nat) (a_risenWays : Nat) (v0_ : Int32) (v1_ : Int32) (v2_ : Int32) (v3_ : Int32) (v4_ : Int32) (v5_ : Int32) (v6_ : Int32) (v7_ : Int32) (v8_ : Int32) (v9_ : Nat → Int32) (v10_ : Nat → Int32) (v11_ : Nat → Int32) : va_W := [(m0, .inr (9, [.int v0_, .int v1_, .ref a_row, .ref a_tape, .int v2_, .int v3_, .int v4_, .int v5_, .ref a_number, .ref a_read, .int v6_, .ref a_readBits, .ref a_stands, .ref a_parted, .ref a_bitsWere, .ref a_stood, .ref a_chosen, .ref a_bestChosen, .int v7_, .ref a_often, .ref a_sorted, .int v8_, .ref a_risen, .ref a_risenWays])), (a_number, .inl (cI, 64, .inl v9_)), (a_stands, .inl (cI, 64, .inl v10_)), (a_parted, .inl (cI, 64, .inl v11_))]
set_option maxHeartbeats 4000000 in
set_option maxRecDepth 100000 in
theorem k_X9_parts (l : Launch) (D : va_G) (cI cJ cK : ClassId) (m0 : Nat) (a_row : Nat) (a_tape : Nat) (a_number : Nat) (a_read : Nat) (a_readBits : Nat) (a_stands : Nat) (a_parted : Nat) (a_bitsWere : Nat) (a_stood : Nat) (a_chosen : Nat) (a_bestChosen : Nat) (a_often : Nat) (a_sorted : Nat) (a_risen : Nat) (a_risenWays : Nat) (m_thrown : Int32) (m_told : Nat) (m_taped : Nat) (m_at : Nat) (m_to : Nat) (m_many : Nat) (m_readMany : Nat) (m_fewest : Int32) (m_size : Nat) (mn : Nat → Int32) (ms : Nat → Int32) (mp : Nat → Int32) (b9 : Int32) (hz_m_told : m_told ≤ 64) (hz_m_taped : m_taped ≤ 100) (hz_m_at : m_at ≤ 100) (hz_m_to : m_to ≤ 100) (hz_m_many : m_many ≤ 64) (hz_m_readMany : m_readMany ≤ 64) (hz_m_size : m_size ≤ 64) (hR_mn : RB 0 255 mn) (hR_ms : RB 0 63 ms) (hR_mp : RB 0 63 mp) : ctV l yX9_parts wsX9_parts ({ frames := 0, cells := 0, slots := 0, locals := 0 } : Room) D (tyIJ cI cJ cK) [.ref m0, .int b9] (wl_k_X9_parts cI cJ cK m0 a_row a_tape a_number a_read a_readBits a_stands a_parted a_bitsWere a_stood a_chosen a_bestChosen a_often a_sorted a_risen a_risenWays m_thrown (nI m_told) (nI m_taped) (nI m_at) (nI m_to) (nI m_many) (nI m_readMany) m_fewest (nI m_size) mn ms mp) (fun (u : va_W) => ∃ (ms' : Nat → Int32) (mp' : Nat → Int32), u = (wl_k_X9_parts cI cJ cK m0 a_row a_tape a_number a_read a_readBits a_stands a_parted a_bitsWere a_stood a_chosen a_bestChosen a_often a_sorted a_risen a_risenWays m_thrown (nI m_told) (nI m_taped) (nI m_at) (nI m_to) (nI m_many) (nI m_readMany) m_fewest (nI m_size) mn ms' mp') ∧ RB 0 63 ms' ∧ RB 0 63 mp' ∧ (∀ j, j < m_many → ∃ q, q < m_many ∧ ms' q = ms j)) := by
  refine ctV.of (cc := cX9_parts) (maxL := 5) (ret := none) (by decide) rfl (Nat.le_of_ble_eq_true rfl) ?_
  intro p e s m below meth c ls A hx hb hr hts hown hml hlocks hname hA hK hN hP hD hS hl
  have hl : lv_has ls 5 [(0, .ref m0), (1, .int b9)] := hl
  have hown : s.vm.findClass RX9 = some m.cls := hown
  have hi9 : ∀ w ∈ u_ws RX9 TX9 24, w ∈ wsX9_parts := by decide +kernel
  have fl49 := hts (.fieldLink RX9 49 "PlaneColumnModel" "number" "[I") (by decide +kernel)
  have fl58 := hts (.fieldLink RX9 58 "PlaneColumnModel" "stands" "[I") (by decide +kernel)
  have fl61 := hts (.fieldLink RX9 61 "PlaneColumnModel" "parted" "[I") (by decide +kernel)
  have fl88 := hts (.fieldLink RX9 88 "PlaneColumnModel" "many" "I") (by decide +kernel)
  refine lv_iconst (v := 0) hx hb dX9_parts_0 (by decide +kernel) ?_
  refine lv_istore_n (lv' := [(2, .int 0), (0, .ref m0), (1, .int b9)]) hx hb dX9_parts_1 rfl hl (by decide) rfl (fun ls hl => ?_)
  refine lv_iconst (v := 0) hx hb dX9_parts_2 (by decide +kernel) ?_
  refine lv_istore_n (lv' := [(3, .int 0), (2, .int 0), (0, .ref m0), (1, .int b9)]) hx hb dX9_parts_3 rfl hl (by decide) rfl (fun ls hl => ?_)
  refine lv_iload_n hx hb dX9_parts_4 rfl (lv_at hl 0 rfl) ?_
  refine lv_iconst (v := 2) hx hb dX9_parts_5 (by decide +kernel) ?_
  refine lv_icmp_ge (tgt := 69) hx hb dX9_parts_6 (by decide) (fun c6 => ?_) (fun c6 => ?_)
  ·
    exact absurd c6 (by decide +kernel)
  ·
    refine lv_iconst (v := 0) hx hb dX9_parts_9 (by decide +kernel) ?_
    refine lv_istore (lv' := [(4, .int 0), (3, .int 0), (2, .int 0), (0, .ref m0), (1, .int b9)]) hx hb dX9_parts_10 hl (by decide) rfl (fun ls hl => ?_)
    have loop12 : ∀ (n9 : Nat) (k : Nat) (n : Nat) (a_parted_12 : Nat → Int32), m_many - k < n9 → (n ≤ 64) → (k ≤ m_many) → (n = fb_ct (fun k => decide ((mn (ms k).toNatClampNeg >>> (b9 &&& 31) &&& 1) = 0)) k) → (∀ j, j < k → (fun k => decide ((mn (ms k).toNatClampNeg >>> (b9 &&& 31) &&& 1) = 0)) j = true → ∃ q, q < n ∧ a_parted_12 q = ms j) → (RB 0 63 a_parted_12) → ∀ (H : Heap) (locs : List Loc) (ls : Array Slot), va_P D vwCl (wl_k_X9_parts cI cJ cK m0 a_row a_tape a_number a_read a_readBits a_stands a_parted a_bitsWere a_stood a_chosen a_bestChosen a_often a_sorted a_risen a_risenWays m_thrown (nI m_told) (nI m_taped) (nI m_at) (nI m_to) (nI m_many) (nI m_readMany) m_fewest (nI m_size) mn ms a_parted_12) H → va_D A (wl_k_X9_parts cI cJ cK m0 a_row a_tape a_number a_read a_readBits a_stands a_parted a_bitsWere a_stood a_chosen a_bestChosen a_often a_sorted a_risen a_risenWays m_thrown (nI m_told) (nI m_taped) (nI m_at) (nI m_to) (nI m_many) (nI m_readMany) m_fewest (nI m_size) mn ms a_parted_12) → va_S A s.heap H locs → lv_has ls 5 [(4, .int (nI k)), (3, .int 0), (2, .int (nI n)), (0, .ref m0), (1, .int b9)] → W p l e ({ frames := 0, cells := 0, slots := 0, locals := 0 } : Room) s m [.ref m0, .int b9].toArray below meth c H locs 0 0 (MQ below (va_Qv (fun (u : va_W) => ∃ (ms' : Nat → Int32) (mp' : Nat → Int32), u = (wl_k_X9_parts cI cJ cK m0 a_row a_tape a_number a_read a_readBits a_stands a_parted a_bitsWere a_stood a_chosen a_bestChosen a_often a_sorted a_risen a_risenWays m_thrown (nI m_told) (nI m_taped) (nI m_at) (nI m_to) (nI m_many) (nI m_readMany) m_fewest (nI m_size) mn ms' mp') ∧ RB 0 63 ms' ∧ RB 0 63 mp' ∧ (∀ j, j < m_many → ∃ q, q < m_many ∧ ms' q = ms j)) (my_B D (tyIJ cI cJ cK) A) A) [.ref m0, .int b9].toArray s 0 0 A) (F0 m 12 ls []) := by
      intro n9
      induction n9 with
      | zero =>
        intro k n a_parted_12 hn9
        exact absurd hn9 (Nat.not_lt_zero _)
      | succ n9 ih12 =>
        intro k n a_parted_12 hn9 hk_n hk_k hn hp0 hR_a_parted_12 H locs ls hP hD hS hl
        have hctle := fb_ct_le (fun k => decide ((mn (ms k).toNatClampNeg >>> (b9 &&& 31) &&& 1) = 0)) k
        have hspan := ct_span (fun k => decide ((mn (ms k).toNatClampNeg >>> (b9 &&& 31) &&& 1) = 0)) (m := k + 1) (n := m_many)
        refine lv_iload hx hb dX9_parts_12 (lv_at hl 0 rfl) ?_
        refine lv_aload_n hx hb dX9_parts_14 rfl (lv_at hl 3 rfl) ?_
        refine va_get (ci := 9) (v := .int (nI m_many)) (C := RX9) (T := TX9) (N := 24) hx hb hts hi9 hown hK hP 0 rfl rfl 7 (by decide) fl88 (fun _ h9 => h9) rfl dX9_parts_15 ?_
        refine lv_icmp_ge (tgt := 63) hx hb dX9_parts_18 (by decide) (fun c18 => ?_) (fun c18 => ?_)
        ·
          have d18 : ((k : Nat) : Int) ≥ ((m_many : Nat) : Int) := my_ge c18 (nI_toInt (by omega)) (nI_toInt (by omega))
          refine lv_iinc (v := 1) (lv' := [(3, .int 1), (4, .int (nI k)), (2, .int (nI n)), (0, .ref m0), (1, .int b9)]) hx hb dX9_parts_63 hl (k := 1) rfl (by decide +kernel) (by decide) rfl (fun ls hl => ?_)
          refine lv_goto (tgt := 4) hx hb dX9_parts_66 (by decide) ?_
          refine lv_iload_n hx hb dX9_parts_4 rfl (lv_at hl 0 rfl) ?_
          refine lv_iconst (v := 2) hx hb dX9_parts_5 (by decide +kernel) ?_
          refine lv_icmp_ge (tgt := 69) hx hb dX9_parts_6 (by decide) (fun c6 => ?_) (fun c6 => ?_)
          ·
            exact absurd c6 (by decide +kernel)
          ·
            refine lv_iconst (v := 0) hx hb dX9_parts_9 (by decide +kernel) ?_
            refine lv_istore (lv' := [(4, .int 0), (3, .int 1), (2, .int (nI n)), (0, .ref m0), (1, .int b9)]) hx hb dX9_parts_10 hl (by decide) rfl (fun ls hl => ?_)
            have loop12 : ∀ (n9 : Nat) (k : Nat) (n : Nat) (a_parted_12 : Nat → Int32), m_many - k < n9 → (n ≤ 64) → (k ≤ m_many) → (n + fb_ct (fun k => decide ((mn (ms k).toNatClampNeg >>> (b9 &&& 31) &&& 1) = 0)) k = fb_ct (fun k => decide ((mn (ms k).toNatClampNeg >>> (b9 &&& 31) &&& 1) = 0)) m_many + k) → (∀ j, j < m_many → (fun k => decide ((mn (ms k).toNatClampNeg >>> (b9 &&& 31) &&& 1) = 0)) j = true → ∃ q, q < n ∧ a_parted_12 q = ms j) → (∀ j, j < k → (fun k => decide ((mn (ms k).toNatClampNeg >>> (b9 &&& 31) &&& 1) = 0)) j = false → ∃ q, q < n ∧ a_parted_12 q = ms j) → (RB 0 63 a_parted_12) → ∀ (H : Heap) (locs : List Loc) (ls : Array Slot), va_P D vwCl (wl_k_X9_parts cI cJ cK m0 a_row a_tape a_number a_read a_readBits a_stands a_parted a_bitsWere a_stood a_chosen a_bestChosen a_often a_sorted a_risen a_risenWays m_thrown (nI m_told) (nI m_taped) (nI m_at) (nI m_to) (nI m_many) (nI m_readMany) m_fewest (nI m_size) mn ms a_parted_12) H → va_D A (wl_k_X9_parts cI cJ cK m0 a_row a_tape a_number a_read a_readBits a_stands a_parted a_bitsWere a_stood a_chosen a_bestChosen a_often a_sorted a_risen a_risenWays m_thrown (nI m_told) (nI m_taped) (nI m_at) (nI m_to) (nI m_many) (nI m_readMany) m_fewest (nI m_size) mn ms a_parted_12) → va_S A s.heap H locs → lv_has ls 5 [(4, .int (nI k)), (3, .int 1), (2, .int (nI n)), (0, .ref m0), (1, .int b9)] → W p l e ({ frames := 0, cells := 0, slots := 0, locals := 0 } : Room) s m [.ref m0, .int b9].toArray below meth c H locs 0 0 (MQ below (va_Qv (fun (u : va_W) => ∃ (ms' : Nat → Int32) (mp' : Nat → Int32), u = (wl_k_X9_parts cI cJ cK m0 a_row a_tape a_number a_read a_readBits a_stands a_parted a_bitsWere a_stood a_chosen a_bestChosen a_often a_sorted a_risen a_risenWays m_thrown (nI m_told) (nI m_taped) (nI m_at) (nI m_to) (nI m_many) (nI m_readMany) m_fewest (nI m_size) mn ms' mp') ∧ RB 0 63 ms' ∧ RB 0 63 mp' ∧ (∀ j, j < m_many → ∃ q, q < m_many ∧ ms' q = ms j)) (my_B D (tyIJ cI cJ cK) A) A) [.ref m0, .int b9].toArray s 0 0 A) (F0 m 12 ls []) := by
              intro n9
              induction n9 with
              | zero =>
                intro k n a_parted_12 hn9
                exact absurd hn9 (Nat.not_lt_zero _)
              | succ n9 ih12 =>
                intro k n a_parted_12 hn9 hk_n hk_k hn hp0 hp1 hR_a_parted_12 H locs ls hP hD hS hl
                have hctle := fb_ct_le (fun k => decide ((mn (ms k).toNatClampNeg >>> (b9 &&& 31) &&& 1) = 0)) k
                have hspan := ct_span (fun k => decide ((mn (ms k).toNatClampNeg >>> (b9 &&& 31) &&& 1) = 0)) (m := k + 1) (n := m_many)
                refine lv_iload hx hb dX9_parts_12 (lv_at hl 0 rfl) ?_
                refine lv_aload_n hx hb dX9_parts_14 rfl (lv_at hl 3 rfl) ?_
                refine va_get (ci := 9) (v := .int (nI m_many)) (C := RX9) (T := TX9) (N := 24) hx hb hts hi9 hown hK hP 0 rfl rfl 7 (by decide) fl88 (fun _ h9 => h9) rfl dX9_parts_15 ?_
                refine lv_icmp_ge (tgt := 63) hx hb dX9_parts_18 (by decide) (fun c18 => ?_) (fun c18 => ?_)
                ·
                  have d18 : ((k : Nat) : Int) ≥ ((m_many : Nat) : Int) := my_ge c18 (nI_toInt (by omega)) (nI_toInt (by omega))
                  refine lv_iinc (v := 2) (lv' := [(3, .int 2), (4, .int (nI k)), (2, .int (nI n)), (0, .ref m0), (1, .int b9)]) hx hb dX9_parts_63 hl (k := 1) rfl (by decide +kernel) (by decide) rfl (fun ls hl => ?_)
                  refine lv_goto (tgt := 4) hx hb dX9_parts_66 (by decide) ?_
                  refine lv_iload_n hx hb dX9_parts_4 rfl (lv_at hl 0 rfl) ?_
                  refine lv_iconst (v := 2) hx hb dX9_parts_5 (by decide +kernel) ?_
                  refine lv_icmp_ge (tgt := 69) hx hb dX9_parts_6 (by decide) (fun c6 => ?_) (fun c6 => ?_)
                  ·
                    have ek : k = m_many := by omega
                    have hn2 : n = m_many := by rw [ek] at hn; omega
                    have hall := pt_all hp0 hp1 (by omega) (by omega)
                    refine lv_iconst (v := 0) hx hb dX9_parts_69 (by decide +kernel) ?_
                    refine lv_istore_n (lv' := [(3, .int 0), (4, .int (nI k)), (2, .int (nI n)), (0, .ref m0), (1, .int b9)]) hx hb dX9_parts_70 rfl hl (by decide) rfl (fun ls hl => ?_)
                    have loop71 : ∀ (n9 : Nat) (i : Nat) (a_stands_71 : Nat → Int32), m_many - i < n9 → (i ≤ m_many) → (∀ p, p < i → a_stands_71 p = a_parted_12 p) → (RB 0 63 a_stands_71) → ∀ (H : Heap) (locs : List Loc) (ls : Array Slot), va_P D vwCl (wl_k_X9_parts cI cJ cK m0 a_row a_tape a_number a_read a_readBits a_stands a_parted a_bitsWere a_stood a_chosen a_bestChosen a_often a_sorted a_risen a_risenWays m_thrown (nI m_told) (nI m_taped) (nI m_at) (nI m_to) (nI m_many) (nI m_readMany) m_fewest (nI m_size) mn a_stands_71 a_parted_12) H → va_D A (wl_k_X9_parts cI cJ cK m0 a_row a_tape a_number a_read a_readBits a_stands a_parted a_bitsWere a_stood a_chosen a_bestChosen a_often a_sorted a_risen a_risenWays m_thrown (nI m_told) (nI m_taped) (nI m_at) (nI m_to) (nI m_many) (nI m_readMany) m_fewest (nI m_size) mn a_stands_71 a_parted_12) → va_S A s.heap H locs → lv_has ls 5 [(3, .int (nI i)), (4, .int (nI k)), (2, .int (nI n)), (0, .ref m0), (1, .int b9)] → W p l e ({ frames := 0, cells := 0, slots := 0, locals := 0 } : Room) s m [.ref m0, .int b9].toArray below meth c H locs 0 0 (MQ below (va_Qv (fun (u : va_W) => ∃ (ms' : Nat → Int32) (mp' : Nat → Int32), u = (wl_k_X9_parts cI cJ cK m0 a_row a_tape a_number a_read a_readBits a_stands a_parted a_bitsWere a_stood a_chosen a_bestChosen a_often a_sorted a_risen a_risenWays m_thrown (nI m_told) (nI m_taped) (nI m_at) (nI m_to) (nI m_many) (nI m_readMany) m_fewest (nI m_size) mn ms' mp') ∧ RB 0 63 ms' ∧ RB 0 63 mp' ∧ (∀ j, j < m_many → ∃ q, q < m_many ∧ ms' q = ms j)) (my_B D (tyIJ cI cJ cK) A) A) [.ref m0, .int b9].toArray s 0 0 A) (F0 m 71 ls []) := by
                      intro n9
                      induction n9 with
                      | zero =>
                        intro i a_stands_71 hn9
                        exact absurd hn9 (Nat.not_lt_zero _)
                      | succ n9 ih71 =>
                        intro i a_stands_71 hn9 hk_i hcp hR_a_stands_71 H locs ls hP hD hS hl
                        refine lv_iload_n hx hb dX9_parts_71 rfl (lv_at hl 0 rfl) ?_
                        refine lv_aload_n hx hb dX9_parts_72 rfl (lv_at hl 3 rfl) ?_
                        refine va_get (ci := 9) (v := .int (nI m_many)) (C := RX9) (T := TX9) (N := 24) hx hb hts hi9 hown hK hP 0 rfl rfl 7 (by decide) fl88 (fun _ h9 => h9) rfl dX9_parts_73 ?_
                        refine lv_icmp_ge (tgt := 97) hx hb dX9_parts_76 (by decide) (fun c76 => ?_) (fun c76 => ?_)
                        ·
                          have d76 : ((i : Nat) : Int) ≥ ((m_many : Nat) : Int) := my_ge c76 (nI_toInt (by omega)) (nI_toInt (by omega))
                          exact my_retV hx hb hr hlocks hK hS (wl_k_X9_parts cI cJ cK m0 a_row a_tape a_number a_read a_readBits a_stands a_parted a_bitsWere a_stood a_chosen a_bestChosen a_often a_sorted a_risen a_risenWays m_thrown (nI m_told) (nI m_taped) (nI m_at) (nI m_to) (nI m_many) (nI m_readMany) m_fewest (nI m_size) mn a_stands_71 a_parted_12) hP hD (⟨a_stands_71, a_parted_12, rfl, hR_a_stands_71, hR_a_parted_12, (fun j h => by obtain ⟨q, q1, q2⟩ := hall j h; exact ⟨q, q1, (hcp q (by omega)).trans q2⟩)⟩) dX9_parts_97
                        ·
                          have d76 : ((i : Nat) : Int) < ((m_many : Nat) : Int) := my_nge c76 (nI_toInt (by omega)) (nI_toInt (by omega))
                          refine lv_aload_n hx hb dX9_parts_79 rfl (lv_at hl 3 rfl) ?_
                          refine va_get (ci := 9) (v := .ref a_stands) (C := RX9) (T := TX9) (N := 24) hx hb hts hi9 hown hK hP 0 rfl rfl 12 (by decide) fl58 (fun _ h9 => h9) rfl dX9_parts_80 ?_
                          refine lv_iload_n hx hb dX9_parts_83 rfl (lv_at hl 0 rfl) ?_
                          refine lv_aload_n hx hb dX9_parts_84 rfl (lv_at hl 3 rfl) ?_
                          refine va_get (ci := 9) (v := .ref a_parted) (C := RX9) (T := TX9) (N := 24) hx hb hts hi9 hown hK hP 0 rfl rfl 13 (by decide) fl61 (fun _ h9 => h9) rfl dX9_parts_85 ?_
                          refine lv_iload_n hx hb dX9_parts_88 rfl (lv_at hl 0 rfl) ?_
                          refine va_iald hx hb hK hP 3 0 rfl rfl (vp_in_nI (by omega) (by omega)) dX9_parts_89 ?_
                          refine my_eqi (y := a_parted_12 i) (congrArg a_parted_12 (nI_clamp (by omega))) ?_
                          have hb_1 := hR_a_parted_12 i
                          refine va_iast hx hb hK hP hD hS 2 0 rfl rfl (vp_in_nI (by omega) (by omega)) dX9_parts_90 (fun H locs hP hD hS => ?_)
                          obtain ⟨g_2, eg_2⟩ : ∃ g : Nat → Int32, g = upd a_stands_71 i (a_parted_12 i) := ⟨_, rfl⟩
                          have eU : upd a_stands_71 (nI i : Int32).toNatClampNeg (a_parted_12 i) = g_2 := by rw [eg_2, show (nI i : Int32).toNatClampNeg = i from nI_clamp (by omega)]
                          rw [eU] at hP hD
                          have hR_g_2 : RB 0 63 g_2 := by rw [eg_2]; exact hR_a_stands_71.upd rfl (by omega) (by omega)
                          have hP : va_P D vwCl (wl_k_X9_parts cI cJ cK m0 a_row a_tape a_number a_read a_readBits a_stands a_parted a_bitsWere a_stood a_chosen a_bestChosen a_often a_sorted a_risen a_risenWays m_thrown (nI m_told) (nI m_taped) (nI m_at) (nI m_to) (nI m_many) (nI m_readMany) m_fewest (nI m_size) mn g_2 a_parted_12) H := hP
                          have hD : va_D A (wl_k_X9_parts cI cJ cK m0 a_row a_tape a_number a_read a_readBits a_stands a_parted a_bitsWere a_stood a_chosen a_bestChosen a_often a_sorted a_risen a_risenWays m_thrown (nI m_told) (nI m_taped) (nI m_at) (nI m_to) (nI m_many) (nI m_readMany) m_fewest (nI m_size) mn g_2 a_parted_12) := hD
                          refine lv_iinc (v := nI (i + 1)) (lv' := [(3, .int (nI (i + 1))), (4, .int (nI k)), (2, .int (nI n)), (0, .ref m0), (1, .int b9)]) hx hb dX9_parts_91 hl (k := 0) rfl (my_incN i 1 (by decide +kernel)) (by decide) rfl (fun ls hl => ?_)
                          refine lv_goto (tgt := 71) hx hb dX9_parts_94 (by decide) ?_
                          exact ih71  (i + 1) g_2 (by omega) (by first | assumption | omega | decide +kernel) (cp_step (by assumption) hcp) hR_g_2 _ _ ls hP hD hS (lv_sub hl [0, 1, 2, 3, 4] rfl)
                    exact loop71 ((m_many - 0) + 1) 0 ms (Nat.lt_succ_self _) (by first | assumption | omega | decide +kernel) (fun p h => absurd h (Nat.not_lt_zero p)) hR_ms _ _ ls hP hD hS (lv_sub hl [0, 1, 2, 3, 4] rfl)
                  ·
                    exact absurd c6 (by decide +kernel)
                ·
                  have d18 : ((k : Nat) : Int) < ((m_many : Nat) : Int) := my_nge c18 (nI_toInt (by omega)) (nI_toInt (by omega))
                  refine lv_aload_n hx hb dX9_parts_21 rfl (lv_at hl 3 rfl) ?_
                  refine va_get (ci := 9) (v := .ref a_number) (C := RX9) (T := TX9) (N := 24) hx hb hts hi9 hown hK hP 0 rfl rfl 8 (by decide) fl49 (fun _ h9 => h9) rfl dX9_parts_22 ?_
                  refine lv_aload_n hx hb dX9_parts_25 rfl (lv_at hl 3 rfl) ?_
                  refine va_get (ci := 9) (v := .ref a_stands) (C := RX9) (T := TX9) (N := 24) hx hb hts hi9 hown hK hP 0 rfl rfl 12 (by decide) fl58 (fun _ h9 => h9) rfl dX9_parts_26 ?_
                  refine lv_iload hx hb dX9_parts_29 (lv_at hl 0 rfl) ?_
                  refine va_iald hx hb hK hP 2 0 rfl rfl (vp_in_nI (by omega) (by omega)) dX9_parts_31 ?_
                  refine my_eqi (y := ms k) (congrArg ms (nI_clamp (by omega))) ?_
                  have hb_3 := hR_ms k
                  refine va_iald hx hb hK hP 1 0 rfl rfl (vp_in_iff.mpr ⟨by omega, by omega⟩) dX9_parts_32 ?_
                  refine lv_topi (fun z_5 ez_5 => ?_)
                  have hb_4 := hR_mn (ms k : Int32).toNatClampNeg
                  rw [← ez_5] at hb_4
                  refine lv_iload_n hx hb dX9_parts_33 rfl (lv_at hl 4 rfl) ?_
                  refine lv_ishr hx hb dX9_parts_34 ?_
                  refine lv_topi (fun z_6 ez_6 => ?_)
                  refine lv_iconst (v := 1) hx hb dX9_parts_35 (by decide +kernel) ?_
                  refine lv_iand hx hb dX9_parts_36 ?_
                  refine lv_topi (fun z_7 ez_7 => ?_)
                  have hbz_7 : 0 ≤ z_7.toInt ∧ z_7.toInt ≤ 1 := by rw [ez_7]; exact my_andR (by decide +kernel) (by decide +kernel)
                  have h36P : (fun k => decide ((mn (ms k).toNatClampNeg >>> (b9 &&& 31) &&& 1) = 0)) k = decide (z_7 = 0) := by subst_vars; rfl
                  have h36 := my_ct0 (P := (fun k => decide ((mn (ms k).toNatClampNeg >>> (b9 &&& 31) &&& 1) = 0))) (k := k) h36P
                  refine lv_iload_n hx hb dX9_parts_37 rfl (lv_at hl 1 rfl) ?_
                  refine lv_icmp_ne (tgt := 57) hx hb dX9_parts_38 (by decide) (fun c38 => ?_) (fun c38 => ?_)
                  ·
                    have d38 : z_7.toInt ≠ (1 : Int) := my_ne c38 rfl (by decide +kernel)
                    refine lv_iinc (v := nI (k + 1)) (lv' := [(4, .int (nI (k + 1))), (3, .int 1), (2, .int (nI n)), (0, .ref m0), (1, .int b9)]) hx hb dX9_parts_57 hl (k := 0) rfl (my_incN k 1 (by decide +kernel)) (by decide) rfl (fun ls hl => ?_)
                    refine lv_goto (tgt := 12) hx hb dX9_parts_60 (by decide) ?_
                    exact ih12  (k + 1) n a_parted_12 (by omega) (by first | assumption | omega | decide +kernel) (by first | assumption | omega | decide +kernel) (by first | assumption | omega | decide +kernel) (by first | exact hp0 | exact pt_grow (by assumption) hp0) (by first | exact pt_new (by assumption) hp1 | exact pt_old hp1 (by rw [h36P, show decide (_ = (0 : Int32)) = true from decide_eq_true (my_eqI (a := 0) (by omega) (by decide))]; decide)) hR_a_parted_12 _ _ ls hP hD hS (lv_sub hl [0, 1, 2, 3, 4] rfl)
                  ·
                    have d38 : z_7.toInt = (1 : Int) := my_eq c38 rfl (by decide +kernel)
                    refine lv_aload_n hx hb dX9_parts_41 rfl (lv_at hl 3 rfl) ?_
                    refine va_get (ci := 9) (v := .ref a_parted) (C := RX9) (T := TX9) (N := 24) hx hb hts hi9 hown hK hP 0 rfl rfl 13 (by decide) fl61 (fun _ h9 => h9) rfl dX9_parts_42 ?_
                    refine lv_iload_n hx hb dX9_parts_45 rfl (lv_at hl 2 rfl) ?_
                    refine lv_aload_n hx hb dX9_parts_46 rfl (lv_at hl 3 rfl) ?_
                    refine va_get (ci := 9) (v := .ref a_stands) (C := RX9) (T := TX9) (N := 24) hx hb hts hi9 hown hK hP 0 rfl rfl 12 (by decide) fl58 (fun _ h9 => h9) rfl dX9_parts_47 ?_
                    refine lv_iload hx hb dX9_parts_50 (lv_at hl 0 rfl) ?_
                    refine va_iald hx hb hK hP 2 0 rfl rfl (vp_in_nI (by omega) (by omega)) dX9_parts_52 ?_
                    refine my_eqi (y := ms k) (congrArg ms (nI_clamp (by omega))) ?_
                    have hb_8 := hR_ms k
                    refine va_iast hx hb hK hP hD hS 3 0 rfl rfl (vp_in_nI (by omega) (by omega)) dX9_parts_53 (fun H locs hP hD hS => ?_)
                    obtain ⟨g_9, eg_9⟩ : ∃ g : Nat → Int32, g = upd a_parted_12 n (ms k) := ⟨_, rfl⟩
                    have eU : upd a_parted_12 (nI n : Int32).toNatClampNeg (ms k) = g_9 := by rw [eg_9, show (nI n : Int32).toNatClampNeg = n from nI_clamp (by omega)]
                    rw [eU] at hP hD
                    have hR_g_9 : RB 0 63 g_9 := by rw [eg_9]; exact hR_a_parted_12.upd rfl (by omega) (by omega)
                    have hP : va_P D vwCl (wl_k_X9_parts cI cJ cK m0 a_row a_tape a_number a_read a_readBits a_stands a_parted a_bitsWere a_stood a_chosen a_bestChosen a_often a_sorted a_risen a_risenWays m_thrown (nI m_told) (nI m_taped) (nI m_at) (nI m_to) (nI m_many) (nI m_readMany) m_fewest (nI m_size) mn ms g_9) H := hP
                    have hD : va_D A (wl_k_X9_parts cI cJ cK m0 a_row a_tape a_number a_read a_readBits a_stands a_parted a_bitsWere a_stood a_chosen a_bestChosen a_often a_sorted a_risen a_risenWays m_thrown (nI m_told) (nI m_taped) (nI m_at) (nI m_to) (nI m_many) (nI m_readMany) m_fewest (nI m_size) mn ms g_9) := hD
                    refine lv_iinc (v := nI (n + 1)) (lv' := [(2, .int (nI (n + 1))), (4, .int (nI k)), (3, .int 1), (0, .ref m0), (1, .int b9)]) hx hb dX9_parts_54 hl (k := 2) rfl (my_incN n 1 (by decide +kernel)) (by decide) rfl (fun ls hl => ?_)
                    refine lv_iinc (v := nI (k + 1)) (lv' := [(4, .int (nI (k + 1))), (2, .int (nI (n + 1))), (3, .int 1), (0, .ref m0), (1, .int b9)]) hx hb dX9_parts_57 hl (k := 1) rfl (my_incN k 1 (by decide +kernel)) (by decide) rfl (fun ls hl => ?_)
                    refine lv_goto (tgt := 12) hx hb dX9_parts_60 (by decide) ?_
                    exact ih12  (k + 1) (n + 1) g_9 (by omega) (by first | assumption | omega | decide +kernel) (by first | assumption | omega | decide +kernel) (by first | assumption | omega | decide +kernel) (by first | exact hp0 | exact pt_grow (by assumption) hp0) (by first | exact pt_new (by assumption) hp1 | exact pt_old hp1 (by rw [h36P, show decide (_ = (0 : Int32)) = true from decide_eq_true (my_eqI (a := 0) (by omega) (by decide))]; decide)) hR_g_9 _ _ ls hP hD hS (lv_sub hl [0, 2, 1, 3, 4] rfl)
            exact loop12 ((m_many - 0) + 1) 0 n a_parted_12 (Nat.lt_succ_self _) (by first | assumption | omega | decide +kernel) (by first | assumption | omega | decide +kernel) (by have e9 : k = m_many := (by omega); have e0 : fb_ct (fun k => decide ((mn (ms k).toNatClampNeg >>> (b9 &&& 31) &&& 1) = 0)) 0 = 0 := rfl; rw [e9] at hn; omega) (by have e9 : k = m_many := (by omega); subst e9; exact hp0) (pt_none) hR_a_parted_12 _ _ ls hP hD hS (lv_sub hl [0, 1, 2, 3, 4] rfl)
        ·
          have d18 : ((k : Nat) : Int) < ((m_many : Nat) : Int) := my_nge c18 (nI_toInt (by omega)) (nI_toInt (by omega))
          refine lv_aload_n hx hb dX9_parts_21 rfl (lv_at hl 3 rfl) ?_
          refine va_get (ci := 9) (v := .ref a_number) (C := RX9) (T := TX9) (N := 24) hx hb hts hi9 hown hK hP 0 rfl rfl 8 (by decide) fl49 (fun _ h9 => h9) rfl dX9_parts_22 ?_
          refine lv_aload_n hx hb dX9_parts_25 rfl (lv_at hl 3 rfl) ?_
          refine va_get (ci := 9) (v := .ref a_stands) (C := RX9) (T := TX9) (N := 24) hx hb hts hi9 hown hK hP 0 rfl rfl 12 (by decide) fl58 (fun _ h9 => h9) rfl dX9_parts_26 ?_
          refine lv_iload hx hb dX9_parts_29 (lv_at hl 0 rfl) ?_
          refine va_iald hx hb hK hP 2 0 rfl rfl (vp_in_nI (by omega) (by omega)) dX9_parts_31 ?_
          refine my_eqi (y := ms k) (congrArg ms (nI_clamp (by omega))) ?_
          have hb_10 := hR_ms k
          refine va_iald hx hb hK hP 1 0 rfl rfl (vp_in_iff.mpr ⟨by omega, by omega⟩) dX9_parts_32 ?_
          refine lv_topi (fun z_12 ez_12 => ?_)
          have hb_11 := hR_mn (ms k : Int32).toNatClampNeg
          rw [← ez_12] at hb_11
          refine lv_iload_n hx hb dX9_parts_33 rfl (lv_at hl 4 rfl) ?_
          refine lv_ishr hx hb dX9_parts_34 ?_
          refine lv_topi (fun z_13 ez_13 => ?_)
          refine lv_iconst (v := 1) hx hb dX9_parts_35 (by decide +kernel) ?_
          refine lv_iand hx hb dX9_parts_36 ?_
          refine lv_topi (fun z_14 ez_14 => ?_)
          have hbz_14 : 0 ≤ z_14.toInt ∧ z_14.toInt ≤ 1 := by rw [ez_14]; exact my_andR (by decide +kernel) (by decide +kernel)
          have h36P : (fun k => decide ((mn (ms k).toNatClampNeg >>> (b9 &&& 31) &&& 1) = 0)) k = decide (z_14 = 0) := by subst_vars; rfl
          have h36 := my_ct0 (P := (fun k => decide ((mn (ms k).toNatClampNeg >>> (b9 &&& 31) &&& 1) = 0))) (k := k) h36P
          refine lv_iload_n hx hb dX9_parts_37 rfl (lv_at hl 1 rfl) ?_
          refine lv_icmp_ne (tgt := 57) hx hb dX9_parts_38 (by decide) (fun c38 => ?_) (fun c38 => ?_)
          ·
            have d38 : z_14.toInt ≠ (0 : Int) := my_ne c38 rfl (by decide +kernel)
            refine lv_iinc (v := nI (k + 1)) (lv' := [(4, .int (nI (k + 1))), (3, .int 0), (2, .int (nI n)), (0, .ref m0), (1, .int b9)]) hx hb dX9_parts_57 hl (k := 0) rfl (my_incN k 1 (by decide +kernel)) (by decide) rfl (fun ls hl => ?_)
            refine lv_goto (tgt := 12) hx hb dX9_parts_60 (by decide) ?_
            exact ih12  (k + 1) n a_parted_12 (by omega) (by first | assumption | omega | decide +kernel) (by first | assumption | omega | decide +kernel) (by first | assumption | omega | decide +kernel) (by first | exact pt_new (by assumption) hp0 | exact pt_old hp0 (by rw [h36P]; exact fun h9 => d38 (by rw [of_decide_eq_true h9]; decide))) hR_a_parted_12 _ _ ls hP hD hS (lv_sub hl [0, 1, 2, 3, 4] rfl)
          ·
            have d38 : z_14.toInt = (0 : Int) := my_eq c38 rfl (by decide +kernel)
            refine lv_aload_n hx hb dX9_parts_41 rfl (lv_at hl 3 rfl) ?_
            refine va_get (ci := 9) (v := .ref a_parted) (C := RX9) (T := TX9) (N := 24) hx hb hts hi9 hown hK hP 0 rfl rfl 13 (by decide) fl61 (fun _ h9 => h9) rfl dX9_parts_42 ?_
            refine lv_iload_n hx hb dX9_parts_45 rfl (lv_at hl 2 rfl) ?_
            refine lv_aload_n hx hb dX9_parts_46 rfl (lv_at hl 3 rfl) ?_
            refine va_get (ci := 9) (v := .ref a_stands) (C := RX9) (T := TX9) (N := 24) hx hb hts hi9 hown hK hP 0 rfl rfl 12 (by decide) fl58 (fun _ h9 => h9) rfl dX9_parts_47 ?_
            refine lv_iload hx hb dX9_parts_50 (lv_at hl 0 rfl) ?_
            refine va_iald hx hb hK hP 2 0 rfl rfl (vp_in_nI (by omega) (by omega)) dX9_parts_52 ?_
            refine my_eqi (y := ms k) (congrArg ms (nI_clamp (by omega))) ?_
            have hb_15 := hR_ms k
            refine va_iast hx hb hK hP hD hS 3 0 rfl rfl (vp_in_nI (by omega) (by omega)) dX9_parts_53 (fun H locs hP hD hS => ?_)
            obtain ⟨g_16, eg_16⟩ : ∃ g : Nat → Int32, g = upd a_parted_12 n (ms k) := ⟨_, rfl⟩
            have eU : upd a_parted_12 (nI n : Int32).toNatClampNeg (ms k) = g_16 := by rw [eg_16, show (nI n : Int32).toNatClampNeg = n from nI_clamp (by omega)]
            rw [eU] at hP hD
            have hR_g_16 : RB 0 63 g_16 := by rw [eg_16]; exact hR_a_parted_12.upd rfl (by omega) (by omega)
            have hP : va_P D vwCl (wl_k_X9_parts cI cJ cK m0 a_row a_tape a_number a_read a_readBits a_stands a_parted a_bitsWere a_stood a_chosen a_bestChosen a_often a_sorted a_risen a_risenWays m_thrown (nI m_told) (nI m_taped) (nI m_at) (nI m_to) (nI m_many) (nI m_readMany) m_fewest (nI m_size) mn ms g_16) H := hP
            have hD : va_D A (wl_k_X9_parts cI cJ cK m0 a_row a_tape a_number a_read a_readBits a_stands a_parted a_bitsWere a_stood a_chosen a_bestChosen a_often a_sorted a_risen a_risenWays m_thrown (nI m_told) (nI m_taped) (nI m_at) (nI m_to) (nI m_many) (nI m_readMany) m_fewest (nI m_size) mn ms g_16) := hD
            refine lv_iinc (v := nI (n + 1)) (lv' := [(2, .int (nI (n + 1))), (4, .int (nI k)), (3, .int 0), (0, .ref m0), (1, .int b9)]) hx hb dX9_parts_54 hl (k := 2) rfl (my_incN n 1 (by decide +kernel)) (by decide) rfl (fun ls hl => ?_)
            refine lv_iinc (v := nI (k + 1)) (lv' := [(4, .int (nI (k + 1))), (2, .int (nI (n + 1))), (3, .int 0), (0, .ref m0), (1, .int b9)]) hx hb dX9_parts_57 hl (k := 1) rfl (my_incN k 1 (by decide +kernel)) (by decide) rfl (fun ls hl => ?_)
            refine lv_goto (tgt := 12) hx hb dX9_parts_60 (by decide) ?_
            exact ih12  (k + 1) (n + 1) g_16 (by omega) (by first | assumption | omega | decide +kernel) (by first | assumption | omega | decide +kernel) (by first | assumption | omega | decide +kernel) (by first | exact pt_new (by assumption) hp0 | exact pt_old hp0 (by rw [h36P]; exact fun h9 => d38 (by rw [of_decide_eq_true h9]; decide))) hR_g_16 _ _ ls hP hD hS (lv_sub hl [0, 2, 1, 3, 4] rfl)
    exact loop12 ((m_many - 0) + 1) 0 0 mp (Nat.lt_succ_self _) (by first | assumption | omega | decide +kernel) (by first | assumption | omega | decide +kernel) (by rfl) (pt_none) hR_mp _ _ ls hP hD hS (lv_sub hl [0, 1, 2, 3, 4] rfl)
abbrev wl_kf_X9_parts (cI cJ cK : ClassId) (m0 : Nat) (a_row : Nat) (a_tape : Nat) (a_number : Nat) (a_read : Nat) (a_readBits : Nat) (a_stands : Nat) (a_parted : Nat) (a_bitsWere : Nat) (a_stood : Nat) (a_chosen : Nat) (a_bestChosen : Nat) (a_often : Nat) (a_sorted : Nat) (a_risen : Nat) (a_risenWays : Nat) (v0_ : Int32) (v1_ : Int32) (v2_ : Int32) (v3_ : Int32) (v4_ : Int32) (v5_ : Int32) (v6_ : Int32) (v7_ : Int32) (v8_ : Int32) (v9_ : Nat → Int32) (v10_ : Nat → Int32) (v11_ : Nat → Int32) : va_W := [(m0, .inr (9, [.int v0_, .int v1_, .ref a_row, .ref a_tape, .int v2_, .int v3_, .int v4_, .int v5_, .ref a_number, .ref a_read, .int v6_, .ref a_readBits, .ref a_stands, .ref a_parted, .ref a_bitsWere, .ref a_stood, .ref a_chosen, .ref a_bestChosen, .int v7_, .ref a_often, .ref a_sorted, .int v8_, .ref a_risen, .ref a_risenWays])), (a_number, .inl (cI, 64, .inl v9_)), (a_stands, .inl (cI, 64, .inl v10_)), (a_parted, .inl (cI, 64, .inl v11_))]
set_option maxHeartbeats 4000000 in
set_option maxRecDepth 100000 in
theorem kf_X9_parts (l : Launch) (D : va_G) (cI cJ cK : ClassId) (m0 : Nat) (a_row : Nat) (a_tape : Nat) (a_number : Nat) (a_read : Nat) (a_readBits : Nat) (a_stands : Nat) (a_parted : Nat) (a_bitsWere : Nat) (a_stood : Nat) (a_chosen : Nat) (a_bestChosen : Nat) (a_often : Nat) (a_sorted : Nat) (a_risen : Nat) (a_risenWays : Nat) (m_thrown : Int32) (m_told : Nat) (m_taped : Nat) (m_at : Nat) (m_to : Nat) (m_many : Nat) (m_readMany : Nat) (m_fewest : Int32) (m_size : Nat) (mn : Nat → Int32) (ms : Nat → Int32) (mp : Nat → Int32) (bb : Nat) (hz_m_told : m_told ≤ 64) (hz_m_taped : m_taped ≤ 100) (hz_m_at : m_at ≤ 100) (hz_m_to : m_to ≤ 100) (hz_m_many : m_many ≤ 64) (hz_m_readMany : m_readMany ≤ 64) (hz_m_size : m_size ≤ 64) (hR_mn : RB 0 255 mn) (hR_ms : RB 0 63 ms) (hR_mp : RB 0 63 mp) (hbb : bb ≤ 7) : ctV l yX9_parts wsX9_parts ({ frames := 0, cells := 0, slots := 0, locals := 0 } : Room) D (tyIJ cI cJ cK) [.ref m0, .int (nI bb)] (wl_kf_X9_parts cI cJ cK m0 a_row a_tape a_number a_read a_readBits a_stands a_parted a_bitsWere a_stood a_chosen a_bestChosen a_often a_sorted a_risen a_risenWays m_thrown (nI m_told) (nI m_taped) (nI m_at) (nI m_to) (nI m_many) (nI m_readMany) m_fewest (nI m_size) mn ms mp) (fun (u : va_W) => ∃ (ms' : Nat → Int32) (mp' : Nat → Int32), u = (wl_kf_X9_parts cI cJ cK m0 a_row a_tape a_number a_read a_readBits a_stands a_parted a_bitsWere a_stood a_chosen a_bestChosen a_often a_sorted a_risen a_risenWays m_thrown (nI m_told) (nI m_taped) (nI m_at) (nI m_to) (nI m_many) (nI m_readMany) m_fewest (nI m_size) mn ms' mp') ∧ RB 0 63 ms' ∧ RB 0 63 mp' ∧ (∀ k, k < m_many → ms' (nxb (boP mn ms bb) m_many k) = ms k)) := by
  refine ctV.of (cc := cX9_parts) (maxL := 5) (ret := none) (by decide) rfl (Nat.le_of_ble_eq_true rfl) ?_
  intro p e s m below meth c ls A hx hb hr hts hown hml hlocks hname hA hK hN hP hD hS hl
  have hl : lv_has ls 5 [(0, .ref m0), (1, .int (nI bb))] := hl
  have hown : s.vm.findClass RX9 = some m.cls := hown
  have hi9 : ∀ w ∈ u_ws RX9 TX9 24, w ∈ wsX9_parts := by decide +kernel
  have fl49 := hts (.fieldLink RX9 49 "PlaneColumnModel" "number" "[I") (by decide +kernel)
  have fl58 := hts (.fieldLink RX9 58 "PlaneColumnModel" "stands" "[I") (by decide +kernel)
  have fl61 := hts (.fieldLink RX9 61 "PlaneColumnModel" "parted" "[I") (by decide +kernel)
  have fl88 := hts (.fieldLink RX9 88 "PlaneColumnModel" "many" "I") (by decide +kernel)
  refine lv_iconst (v := 0) hx hb dX9_parts_0 (by decide +kernel) ?_
  refine lv_istore_n (lv' := [(2, .int 0), (0, .ref m0), (1, .int (nI bb))]) hx hb dX9_parts_1 rfl hl (by decide) rfl (fun ls hl => ?_)
  refine lv_iconst (v := 0) hx hb dX9_parts_2 (by decide +kernel) ?_
  refine lv_istore_n (lv' := [(3, .int 0), (2, .int 0), (0, .ref m0), (1, .int (nI bb))]) hx hb dX9_parts_3 rfl hl (by decide) rfl (fun ls hl => ?_)
  refine lv_iload_n hx hb dX9_parts_4 rfl (lv_at hl 0 rfl) ?_
  refine lv_iconst (v := 2) hx hb dX9_parts_5 (by decide +kernel) ?_
  refine lv_icmp_ge (tgt := 69) hx hb dX9_parts_6 (by decide) (fun c6 => ?_) (fun c6 => ?_)
  ·
    exact absurd c6 (by decide +kernel)
  ·
    refine lv_iconst (v := 0) hx hb dX9_parts_9 (by decide +kernel) ?_
    refine lv_istore (lv' := [(4, .int 0), (3, .int 0), (2, .int 0), (0, .ref m0), (1, .int (nI bb))]) hx hb dX9_parts_10 hl (by decide) rfl (fun ls hl => ?_)
    have loop12 : ∀ (n9 : Nat) (k : Nat) (n : Nat) (a_parted_12 : Nat → Int32), m_many - k < n9 → (n ≤ 64) → (k ≤ m_many) → (n = fb_ct (fun k => !boP mn ms bb k) k) → (∀ j, j < k → (fun k => !boP mn ms bb k) j = true → a_parted_12 (fb_ct (fun k => !boP mn ms bb k) j) = ms j) → (RB 0 63 a_parted_12) → ∀ (H : Heap) (locs : List Loc) (ls : Array Slot), va_P D vwCl (wl_kf_X9_parts cI cJ cK m0 a_row a_tape a_number a_read a_readBits a_stands a_parted a_bitsWere a_stood a_chosen a_bestChosen a_often a_sorted a_risen a_risenWays m_thrown (nI m_told) (nI m_taped) (nI m_at) (nI m_to) (nI m_many) (nI m_readMany) m_fewest (nI m_size) mn ms a_parted_12) H → va_D A (wl_kf_X9_parts cI cJ cK m0 a_row a_tape a_number a_read a_readBits a_stands a_parted a_bitsWere a_stood a_chosen a_bestChosen a_often a_sorted a_risen a_risenWays m_thrown (nI m_told) (nI m_taped) (nI m_at) (nI m_to) (nI m_many) (nI m_readMany) m_fewest (nI m_size) mn ms a_parted_12) → va_S A s.heap H locs → lv_has ls 5 [(4, .int (nI k)), (3, .int 0), (2, .int (nI n)), (0, .ref m0), (1, .int (nI bb))] → W p l e ({ frames := 0, cells := 0, slots := 0, locals := 0 } : Room) s m [.ref m0, .int (nI bb)].toArray below meth c H locs 0 0 (MQ below (va_Qv (fun (u : va_W) => ∃ (ms' : Nat → Int32) (mp' : Nat → Int32), u = (wl_kf_X9_parts cI cJ cK m0 a_row a_tape a_number a_read a_readBits a_stands a_parted a_bitsWere a_stood a_chosen a_bestChosen a_often a_sorted a_risen a_risenWays m_thrown (nI m_told) (nI m_taped) (nI m_at) (nI m_to) (nI m_many) (nI m_readMany) m_fewest (nI m_size) mn ms' mp') ∧ RB 0 63 ms' ∧ RB 0 63 mp' ∧ (∀ k, k < m_many → ms' (nxb (boP mn ms bb) m_many k) = ms k)) (my_B D (tyIJ cI cJ cK) A) A) [.ref m0, .int (nI bb)].toArray s 0 0 A) (F0 m 12 ls []) := by
      intro n9
      induction n9 with
      | zero =>
        intro k n a_parted_12 hn9
        exact absurd hn9 (Nat.not_lt_zero _)
      | succ n9 ih12 =>
        intro k n a_parted_12 hn9 hk_n hk_k hn hq0 hR_a_parted_12 H locs ls hP hD hS hl
        have hctle := fb_ct_le (fun k => !boP mn ms bb k) k
        have hspan := ct_span (fun k => !boP mn ms bb k) (m := k + 1) (n := m_many)
        refine lv_iload hx hb dX9_parts_12 (lv_at hl 0 rfl) ?_
        refine lv_aload_n hx hb dX9_parts_14 rfl (lv_at hl 3 rfl) ?_
        refine va_get (ci := 9) (v := .int (nI m_many)) (C := RX9) (T := TX9) (N := 24) hx hb hts hi9 hown hK hP 0 rfl rfl 7 (by decide) fl88 (fun _ h9 => h9) rfl dX9_parts_15 ?_
        refine lv_icmp_ge (tgt := 63) hx hb dX9_parts_18 (by decide) (fun c18 => ?_) (fun c18 => ?_)
        ·
          have d18 : ((k : Nat) : Int) ≥ ((m_many : Nat) : Int) := my_ge c18 (nI_toInt (by omega)) (nI_toInt (by omega))
          refine lv_iinc (v := 1) (lv' := [(3, .int 1), (4, .int (nI k)), (2, .int (nI n)), (0, .ref m0), (1, .int (nI bb))]) hx hb dX9_parts_63 hl (k := 1) rfl (by decide +kernel) (by decide) rfl (fun ls hl => ?_)
          refine lv_goto (tgt := 4) hx hb dX9_parts_66 (by decide) ?_
          refine lv_iload_n hx hb dX9_parts_4 rfl (lv_at hl 0 rfl) ?_
          refine lv_iconst (v := 2) hx hb dX9_parts_5 (by decide +kernel) ?_
          refine lv_icmp_ge (tgt := 69) hx hb dX9_parts_6 (by decide) (fun c6 => ?_) (fun c6 => ?_)
          ·
            exact absurd c6 (by decide +kernel)
          ·
            refine lv_iconst (v := 0) hx hb dX9_parts_9 (by decide +kernel) ?_
            refine lv_istore (lv' := [(4, .int 0), (3, .int 1), (2, .int (nI n)), (0, .ref m0), (1, .int (nI bb))]) hx hb dX9_parts_10 hl (by decide) rfl (fun ls hl => ?_)
            have loop12 : ∀ (n9 : Nat) (k : Nat) (n : Nat) (a_parted_12 : Nat → Int32), m_many - k < n9 → (n ≤ 64) → (k ≤ m_many) → (n + fb_ct (fun k => !boP mn ms bb k) k = fb_ct (fun k => !boP mn ms bb k) m_many + k) → (∀ j, j < m_many → (fun k => !boP mn ms bb k) j = true → a_parted_12 (fb_ct (fun k => !boP mn ms bb k) j) = ms j) → (∀ j, j < k → (fun k => !boP mn ms bb k) j = false → a_parted_12 (fb_ct (fun k => !boP mn ms bb k) m_many + (j - fb_ct (fun k => !boP mn ms bb k) j)) = ms j) → (RB 0 63 a_parted_12) → ∀ (H : Heap) (locs : List Loc) (ls : Array Slot), va_P D vwCl (wl_kf_X9_parts cI cJ cK m0 a_row a_tape a_number a_read a_readBits a_stands a_parted a_bitsWere a_stood a_chosen a_bestChosen a_often a_sorted a_risen a_risenWays m_thrown (nI m_told) (nI m_taped) (nI m_at) (nI m_to) (nI m_many) (nI m_readMany) m_fewest (nI m_size) mn ms a_parted_12) H → va_D A (wl_kf_X9_parts cI cJ cK m0 a_row a_tape a_number a_read a_readBits a_stands a_parted a_bitsWere a_stood a_chosen a_bestChosen a_often a_sorted a_risen a_risenWays m_thrown (nI m_told) (nI m_taped) (nI m_at) (nI m_to) (nI m_many) (nI m_readMany) m_fewest (nI m_size) mn ms a_parted_12) → va_S A s.heap H locs → lv_has ls 5 [(4, .int (nI k)), (3, .int 1), (2, .int (nI n)), (0, .ref m0), (1, .int (nI bb))] → W p l e ({ frames := 0, cells := 0, slots := 0, locals := 0 } : Room) s m [.ref m0, .int (nI bb)].toArray below meth c H locs 0 0 (MQ below (va_Qv (fun (u : va_W) => ∃ (ms' : Nat → Int32) (mp' : Nat → Int32), u = (wl_kf_X9_parts cI cJ cK m0 a_row a_tape a_number a_read a_readBits a_stands a_parted a_bitsWere a_stood a_chosen a_bestChosen a_often a_sorted a_risen a_risenWays m_thrown (nI m_told) (nI m_taped) (nI m_at) (nI m_to) (nI m_many) (nI m_readMany) m_fewest (nI m_size) mn ms' mp') ∧ RB 0 63 ms' ∧ RB 0 63 mp' ∧ (∀ k, k < m_many → ms' (nxb (boP mn ms bb) m_many k) = ms k)) (my_B D (tyIJ cI cJ cK) A) A) [.ref m0, .int (nI bb)].toArray s 0 0 A) (F0 m 12 ls []) := by
              intro n9
              induction n9 with
              | zero =>
                intro k n a_parted_12 hn9
                exact absurd hn9 (Nat.not_lt_zero _)
              | succ n9 ih12 =>
                intro k n a_parted_12 hn9 hk_n hk_k hn hq0 hq1 hR_a_parted_12 H locs ls hP hD hS hl
                have hctle := fb_ct_le (fun k => !boP mn ms bb k) k
                have hspan := ct_span (fun k => !boP mn ms bb k) (m := k + 1) (n := m_many)
                refine lv_iload hx hb dX9_parts_12 (lv_at hl 0 rfl) ?_
                refine lv_aload_n hx hb dX9_parts_14 rfl (lv_at hl 3 rfl) ?_
                refine va_get (ci := 9) (v := .int (nI m_many)) (C := RX9) (T := TX9) (N := 24) hx hb hts hi9 hown hK hP 0 rfl rfl 7 (by decide) fl88 (fun _ h9 => h9) rfl dX9_parts_15 ?_
                refine lv_icmp_ge (tgt := 63) hx hb dX9_parts_18 (by decide) (fun c18 => ?_) (fun c18 => ?_)
                ·
                  have d18 : ((k : Nat) : Int) ≥ ((m_many : Nat) : Int) := my_ge c18 (nI_toInt (by omega)) (nI_toInt (by omega))
                  refine lv_iinc (v := 2) (lv' := [(3, .int 2), (4, .int (nI k)), (2, .int (nI n)), (0, .ref m0), (1, .int (nI bb))]) hx hb dX9_parts_63 hl (k := 1) rfl (by decide +kernel) (by decide) rfl (fun ls hl => ?_)
                  refine lv_goto (tgt := 4) hx hb dX9_parts_66 (by decide) ?_
                  refine lv_iload_n hx hb dX9_parts_4 rfl (lv_at hl 0 rfl) ?_
                  refine lv_iconst (v := 2) hx hb dX9_parts_5 (by decide +kernel) ?_
                  refine lv_icmp_ge (tgt := 69) hx hb dX9_parts_6 (by decide) (fun c6 => ?_) (fun c6 => ?_)
                  ·
                    have ek : k = m_many := by omega
                    have hpe := pq_end (b := boP mn ms bb) hq0 (by rw [ek] at hq1; exact hq1) (fun j _ => (Bool.not_not _).symm)
                    refine lv_iconst (v := 0) hx hb dX9_parts_69 (by decide +kernel) ?_
                    refine lv_istore_n (lv' := [(3, .int 0), (4, .int (nI k)), (2, .int (nI n)), (0, .ref m0), (1, .int (nI bb))]) hx hb dX9_parts_70 rfl hl (by decide) rfl (fun ls hl => ?_)
                    have loop71 : ∀ (n9 : Nat) (i : Nat) (a_stands_71 : Nat → Int32), m_many - i < n9 → (i ≤ m_many) → (∀ p, p < i → a_stands_71 p = a_parted_12 p) → (RB 0 63 a_stands_71) → ∀ (H : Heap) (locs : List Loc) (ls : Array Slot), va_P D vwCl (wl_kf_X9_parts cI cJ cK m0 a_row a_tape a_number a_read a_readBits a_stands a_parted a_bitsWere a_stood a_chosen a_bestChosen a_often a_sorted a_risen a_risenWays m_thrown (nI m_told) (nI m_taped) (nI m_at) (nI m_to) (nI m_many) (nI m_readMany) m_fewest (nI m_size) mn a_stands_71 a_parted_12) H → va_D A (wl_kf_X9_parts cI cJ cK m0 a_row a_tape a_number a_read a_readBits a_stands a_parted a_bitsWere a_stood a_chosen a_bestChosen a_often a_sorted a_risen a_risenWays m_thrown (nI m_told) (nI m_taped) (nI m_at) (nI m_to) (nI m_many) (nI m_readMany) m_fewest (nI m_size) mn a_stands_71 a_parted_12) → va_S A s.heap H locs → lv_has ls 5 [(3, .int (nI i)), (4, .int (nI k)), (2, .int (nI n)), (0, .ref m0), (1, .int (nI bb))] → W p l e ({ frames := 0, cells := 0, slots := 0, locals := 0 } : Room) s m [.ref m0, .int (nI bb)].toArray below meth c H locs 0 0 (MQ below (va_Qv (fun (u : va_W) => ∃ (ms' : Nat → Int32) (mp' : Nat → Int32), u = (wl_kf_X9_parts cI cJ cK m0 a_row a_tape a_number a_read a_readBits a_stands a_parted a_bitsWere a_stood a_chosen a_bestChosen a_often a_sorted a_risen a_risenWays m_thrown (nI m_told) (nI m_taped) (nI m_at) (nI m_to) (nI m_many) (nI m_readMany) m_fewest (nI m_size) mn ms' mp') ∧ RB 0 63 ms' ∧ RB 0 63 mp' ∧ (∀ k, k < m_many → ms' (nxb (boP mn ms bb) m_many k) = ms k)) (my_B D (tyIJ cI cJ cK) A) A) [.ref m0, .int (nI bb)].toArray s 0 0 A) (F0 m 71 ls []) := by
                      intro n9
                      induction n9 with
                      | zero =>
                        intro i a_stands_71 hn9
                        exact absurd hn9 (Nat.not_lt_zero _)
                      | succ n9 ih71 =>
                        intro i a_stands_71 hn9 hk_i hcp hR_a_stands_71 H locs ls hP hD hS hl
                        refine lv_iload_n hx hb dX9_parts_71 rfl (lv_at hl 0 rfl) ?_
                        refine lv_aload_n hx hb dX9_parts_72 rfl (lv_at hl 3 rfl) ?_
                        refine va_get (ci := 9) (v := .int (nI m_many)) (C := RX9) (T := TX9) (N := 24) hx hb hts hi9 hown hK hP 0 rfl rfl 7 (by decide) fl88 (fun _ h9 => h9) rfl dX9_parts_73 ?_
                        refine lv_icmp_ge (tgt := 97) hx hb dX9_parts_76 (by decide) (fun c76 => ?_) (fun c76 => ?_)
                        ·
                          have d76 : ((i : Nat) : Int) ≥ ((m_many : Nat) : Int) := my_ge c76 (nI_toInt (by omega)) (nI_toInt (by omega))
                          exact my_retV hx hb hr hlocks hK hS (wl_kf_X9_parts cI cJ cK m0 a_row a_tape a_number a_read a_readBits a_stands a_parted a_bitsWere a_stood a_chosen a_bestChosen a_often a_sorted a_risen a_risenWays m_thrown (nI m_told) (nI m_taped) (nI m_at) (nI m_to) (nI m_many) (nI m_readMany) m_fewest (nI m_size) mn a_stands_71 a_parted_12) hP hD (⟨a_stands_71, a_parted_12, rfl, hR_a_stands_71, hR_a_parted_12, (fun q hq => (hcp _ (by have h9 := nxb_lt (b := boP mn ms bb) hq; omega)).trans (hpe q hq))⟩) dX9_parts_97
                        ·
                          have d76 : ((i : Nat) : Int) < ((m_many : Nat) : Int) := my_nge c76 (nI_toInt (by omega)) (nI_toInt (by omega))
                          refine lv_aload_n hx hb dX9_parts_79 rfl (lv_at hl 3 rfl) ?_
                          refine va_get (ci := 9) (v := .ref a_stands) (C := RX9) (T := TX9) (N := 24) hx hb hts hi9 hown hK hP 0 rfl rfl 12 (by decide) fl58 (fun _ h9 => h9) rfl dX9_parts_80 ?_
                          refine lv_iload_n hx hb dX9_parts_83 rfl (lv_at hl 0 rfl) ?_
                          refine lv_aload_n hx hb dX9_parts_84 rfl (lv_at hl 3 rfl) ?_
                          refine va_get (ci := 9) (v := .ref a_parted) (C := RX9) (T := TX9) (N := 24) hx hb hts hi9 hown hK hP 0 rfl rfl 13 (by decide) fl61 (fun _ h9 => h9) rfl dX9_parts_85 ?_
                          refine lv_iload_n hx hb dX9_parts_88 rfl (lv_at hl 0 rfl) ?_
                          refine va_iald hx hb hK hP 3 0 rfl rfl (vp_in_nI (by omega) (by omega)) dX9_parts_89 ?_
                          refine my_eqi (y := a_parted_12 i) (congrArg a_parted_12 (nI_clamp (by omega))) ?_
                          have hb_1 := hR_a_parted_12 i
                          refine va_iast hx hb hK hP hD hS 2 0 rfl rfl (vp_in_nI (by omega) (by omega)) dX9_parts_90 (fun H locs hP hD hS => ?_)
                          obtain ⟨g_2, eg_2⟩ : ∃ g : Nat → Int32, g = upd a_stands_71 i (a_parted_12 i) := ⟨_, rfl⟩
                          have eU : upd a_stands_71 (nI i : Int32).toNatClampNeg (a_parted_12 i) = g_2 := by rw [eg_2, show (nI i : Int32).toNatClampNeg = i from nI_clamp (by omega)]
                          rw [eU] at hP hD
                          have hR_g_2 : RB 0 63 g_2 := by rw [eg_2]; exact hR_a_stands_71.upd rfl (by omega) (by omega)
                          have hP : va_P D vwCl (wl_kf_X9_parts cI cJ cK m0 a_row a_tape a_number a_read a_readBits a_stands a_parted a_bitsWere a_stood a_chosen a_bestChosen a_often a_sorted a_risen a_risenWays m_thrown (nI m_told) (nI m_taped) (nI m_at) (nI m_to) (nI m_many) (nI m_readMany) m_fewest (nI m_size) mn g_2 a_parted_12) H := hP
                          have hD : va_D A (wl_kf_X9_parts cI cJ cK m0 a_row a_tape a_number a_read a_readBits a_stands a_parted a_bitsWere a_stood a_chosen a_bestChosen a_often a_sorted a_risen a_risenWays m_thrown (nI m_told) (nI m_taped) (nI m_at) (nI m_to) (nI m_many) (nI m_readMany) m_fewest (nI m_size) mn g_2 a_parted_12) := hD
                          refine lv_iinc (v := nI (i + 1)) (lv' := [(3, .int (nI (i + 1))), (4, .int (nI k)), (2, .int (nI n)), (0, .ref m0), (1, .int (nI bb))]) hx hb dX9_parts_91 hl (k := 0) rfl (my_incN i 1 (by decide +kernel)) (by decide) rfl (fun ls hl => ?_)
                          refine lv_goto (tgt := 71) hx hb dX9_parts_94 (by decide) ?_
                          exact ih71  (i + 1) g_2 (by omega) (by first | assumption | omega | decide +kernel) (cp_step (by assumption) hcp) hR_g_2 _ _ ls hP hD hS (lv_sub hl [0, 1, 2, 3, 4] rfl)
                    exact loop71 ((m_many - 0) + 1) 0 ms (Nat.lt_succ_self _) (by first | assumption | omega | decide +kernel) (fun p h => absurd h (Nat.not_lt_zero p)) hR_ms _ _ ls hP hD hS (lv_sub hl [0, 1, 2, 3, 4] rfl)
                  ·
                    exact absurd c6 (by decide +kernel)
                ·
                  have d18 : ((k : Nat) : Int) < ((m_many : Nat) : Int) := my_nge c18 (nI_toInt (by omega)) (nI_toInt (by omega))
                  refine lv_aload_n hx hb dX9_parts_21 rfl (lv_at hl 3 rfl) ?_
                  refine va_get (ci := 9) (v := .ref a_number) (C := RX9) (T := TX9) (N := 24) hx hb hts hi9 hown hK hP 0 rfl rfl 8 (by decide) fl49 (fun _ h9 => h9) rfl dX9_parts_22 ?_
                  refine lv_aload_n hx hb dX9_parts_25 rfl (lv_at hl 3 rfl) ?_
                  refine va_get (ci := 9) (v := .ref a_stands) (C := RX9) (T := TX9) (N := 24) hx hb hts hi9 hown hK hP 0 rfl rfl 12 (by decide) fl58 (fun _ h9 => h9) rfl dX9_parts_26 ?_
                  refine lv_iload hx hb dX9_parts_29 (lv_at hl 0 rfl) ?_
                  refine va_iald hx hb hK hP 2 0 rfl rfl (vp_in_nI (by omega) (by omega)) dX9_parts_31 ?_
                  refine my_eqi (y := ms k) (congrArg ms (nI_clamp (by omega))) ?_
                  have hb_3 := hR_ms k
                  obtain ⟨w_4, ew_4, hw_4⟩ : ∃ w : Nat, (ms k) = nI w ∧ (w : Int) = (ms k : Int32).toInt := my_natE (by omega)
                  refine my_eqi (y := nI w_4) ew_4 ?_
                  refine va_iald hx hb hK hP 1 0 rfl rfl (vp_in_nI (by omega) (by omega)) dX9_parts_32 ?_
                  refine my_eqi (y := mn w_4) (congrArg mn (nI_clamp (by omega))) ?_
                  have hb_5 := hR_mn w_4
                  obtain ⟨w_6, ew_6, hw_6⟩ : ∃ w : Nat, (mn w_4) = nI w ∧ (w : Int) = (mn w_4 : Int32).toInt := my_natE (by omega)
                  refine my_eqi (y := nI w_6) ew_6 ?_
                  refine lv_iload_n hx hb dX9_parts_33 rfl (lv_at hl 4 rfl) ?_
                  refine lv_ishr hx hb dX9_parts_34 ?_
                  refine my_eqi (y := nI (w_6 / 2 ^ bb)) (my_shrG (by omega) (by omega)) ?_
                  refine lv_iconst (v := 1) hx hb dX9_parts_35 (by decide +kernel) ?_
                  refine lv_iand hx hb dX9_parts_36 ?_
                  refine my_eqi (y := nI ((w_6 / 2 ^ bb) % 2)) (my_maskN _ 1) ?_
                  refine lv_iload_n hx hb dX9_parts_37 rfl (lv_at hl 1 rfl) ?_
                  refine lv_icmp_ne (tgt := 57) hx hb dX9_parts_38 (by decide) (fun c38 => ?_) (fun c38 => ?_)
                  ·
                    have d38 : (((w_6 / 2 ^ bb) % 2 : Nat) : Int) ≠ (1 : Int) := my_ne c38 (nI_toInt (by omega)) (by decide +kernel)
                    refine lv_iinc (v := nI (k + 1)) (lv' := [(4, .int (nI (k + 1))), (3, .int 1), (2, .int (nI n)), (0, .ref m0), (1, .int (nI bb))]) hx hb dX9_parts_57 hl (k := 0) rfl (my_incN k 1 (by decide +kernel)) (by decide) rfl (fun ls hl => ?_)
                    refine lv_goto (tgt := 12) hx hb dX9_parts_60 (by decide) ?_
                    exact ih12  (k + 1) n a_parted_12 (by omega) (by first | assumption | omega | decide +kernel) (by first | assumption | omega | decide +kernel) (by first | (have h9 := ct_no (a := fb_ct (fun k => !boP mn ms bb k) k) rfl (pb_f (by assumption) (by assumption) (by omega) (by omega) (by omega)); omega) | (have h9 := ct_yes (a := fb_ct (fun k => !boP mn ms bb k) k) rfl (pb_t (by assumption) (by assumption) (by omega) (by omega) (by omega)); omega)) (by first | exact hq0 | exact pq_keep hq0 (by assumption) (by omega)) (by first | exact pq_new1 hq1 (by assumption) hn rfl | exact pq_old1 hq1 (pb_t (by assumption) (by assumption) (by omega) (by omega) (by omega))) hR_a_parted_12 _ _ ls hP hD hS (lv_sub hl [0, 1, 2, 3, 4] rfl)
                  ·
                    have d38 : (((w_6 / 2 ^ bb) % 2 : Nat) : Int) = (1 : Int) := my_eq c38 (nI_toInt (by omega)) (by decide +kernel)
                    have hcs9 : fb_ct (fun k => !boP mn ms bb k) (k + 1) = fb_ct (fun k => !boP mn ms bb k) k + 0 := by first | exact (ct_no (a := fb_ct (fun k => !boP mn ms bb k) k) rfl (pb_f (by assumption) (by assumption) (by omega) (by omega) (by omega))).symm | exact (ct_yes (a := fb_ct (fun k => !boP mn ms bb k) k) rfl (pb_t (by assumption) (by assumption) (by omega) (by omega) (by omega))).symm
                    refine lv_aload_n hx hb dX9_parts_41 rfl (lv_at hl 3 rfl) ?_
                    refine va_get (ci := 9) (v := .ref a_parted) (C := RX9) (T := TX9) (N := 24) hx hb hts hi9 hown hK hP 0 rfl rfl 13 (by decide) fl61 (fun _ h9 => h9) rfl dX9_parts_42 ?_
                    refine lv_iload_n hx hb dX9_parts_45 rfl (lv_at hl 2 rfl) ?_
                    refine lv_aload_n hx hb dX9_parts_46 rfl (lv_at hl 3 rfl) ?_
                    refine va_get (ci := 9) (v := .ref a_stands) (C := RX9) (T := TX9) (N := 24) hx hb hts hi9 hown hK hP 0 rfl rfl 12 (by decide) fl58 (fun _ h9 => h9) rfl dX9_parts_47 ?_
                    refine lv_iload hx hb dX9_parts_50 (lv_at hl 0 rfl) ?_
                    refine va_iald hx hb hK hP 2 0 rfl rfl (vp_in_nI (by omega) (by omega)) dX9_parts_52 ?_
                    refine my_eqi (y := ms k) (congrArg ms (nI_clamp (by omega))) ?_
                    have hb_7 := hR_ms k
                    refine va_iast hx hb hK hP hD hS 3 0 rfl rfl (vp_in_nI (by omega) (by omega)) dX9_parts_53 (fun H locs hP hD hS => ?_)
                    obtain ⟨g_8, eg_8⟩ : ∃ g : Nat → Int32, g = upd a_parted_12 n (ms k) := ⟨_, rfl⟩
                    have eU : upd a_parted_12 (nI n : Int32).toNatClampNeg (ms k) = g_8 := by rw [eg_8, show (nI n : Int32).toNatClampNeg = n from nI_clamp (by omega)]
                    rw [eU] at hP hD
                    have hR_g_8 : RB 0 63 g_8 := by rw [eg_8]; exact hR_a_parted_12.upd rfl (by omega) (by omega)
                    have hP : va_P D vwCl (wl_kf_X9_parts cI cJ cK m0 a_row a_tape a_number a_read a_readBits a_stands a_parted a_bitsWere a_stood a_chosen a_bestChosen a_often a_sorted a_risen a_risenWays m_thrown (nI m_told) (nI m_taped) (nI m_at) (nI m_to) (nI m_many) (nI m_readMany) m_fewest (nI m_size) mn ms g_8) H := hP
                    have hD : va_D A (wl_kf_X9_parts cI cJ cK m0 a_row a_tape a_number a_read a_readBits a_stands a_parted a_bitsWere a_stood a_chosen a_bestChosen a_often a_sorted a_risen a_risenWays m_thrown (nI m_told) (nI m_taped) (nI m_at) (nI m_to) (nI m_many) (nI m_readMany) m_fewest (nI m_size) mn ms g_8) := hD
                    refine lv_iinc (v := nI (n + 1)) (lv' := [(2, .int (nI (n + 1))), (4, .int (nI k)), (3, .int 1), (0, .ref m0), (1, .int (nI bb))]) hx hb dX9_parts_54 hl (k := 2) rfl (my_incN n 1 (by decide +kernel)) (by decide) rfl (fun ls hl => ?_)
                    refine lv_iinc (v := nI (k + 1)) (lv' := [(4, .int (nI (k + 1))), (2, .int (nI (n + 1))), (3, .int 1), (0, .ref m0), (1, .int (nI bb))]) hx hb dX9_parts_57 hl (k := 1) rfl (my_incN k 1 (by decide +kernel)) (by decide) rfl (fun ls hl => ?_)
                    refine lv_goto (tgt := 12) hx hb dX9_parts_60 (by decide) ?_
                    exact ih12  (k + 1) (n + 1) g_8 (by omega) (by first | assumption | omega | decide +kernel) (by first | assumption | omega | decide +kernel) (by first | (have h9 := ct_no (a := fb_ct (fun k => !boP mn ms bb k) k) rfl (pb_f (by assumption) (by assumption) (by omega) (by omega) (by omega)); omega) | (have h9 := ct_yes (a := fb_ct (fun k => !boP mn ms bb k) k) rfl (pb_t (by assumption) (by assumption) (by omega) (by omega) (by omega)); omega)) (by first | exact hq0 | exact pq_keep hq0 (by assumption) (by omega)) (by first | exact pq_new1 hq1 (by assumption) hn rfl | exact pq_old1 hq1 (pb_t (by assumption) (by assumption) (by omega) (by omega) (by omega))) hR_g_8 _ _ ls hP hD hS (lv_sub hl [0, 2, 1, 3, 4] rfl)
            exact loop12 ((m_many - 0) + 1) 0 n a_parted_12 (Nat.lt_succ_self _) (by first | assumption | omega | decide +kernel) (by first | assumption | omega | decide +kernel) (by have e9 : k = m_many := (by omega); rw [e9] at hn; show _ + 0 = _; omega) (by have e9 : k = m_many := (by omega); rw [e9] at hq0; exact hq0) (fun q h => absurd h (Nat.not_lt_zero q)) hR_a_parted_12 _ _ ls hP hD hS (lv_sub hl [0, 1, 2, 3, 4] rfl)
        ·
          have d18 : ((k : Nat) : Int) < ((m_many : Nat) : Int) := my_nge c18 (nI_toInt (by omega)) (nI_toInt (by omega))
          refine lv_aload_n hx hb dX9_parts_21 rfl (lv_at hl 3 rfl) ?_
          refine va_get (ci := 9) (v := .ref a_number) (C := RX9) (T := TX9) (N := 24) hx hb hts hi9 hown hK hP 0 rfl rfl 8 (by decide) fl49 (fun _ h9 => h9) rfl dX9_parts_22 ?_
          refine lv_aload_n hx hb dX9_parts_25 rfl (lv_at hl 3 rfl) ?_
          refine va_get (ci := 9) (v := .ref a_stands) (C := RX9) (T := TX9) (N := 24) hx hb hts hi9 hown hK hP 0 rfl rfl 12 (by decide) fl58 (fun _ h9 => h9) rfl dX9_parts_26 ?_
          refine lv_iload hx hb dX9_parts_29 (lv_at hl 0 rfl) ?_
          refine va_iald hx hb hK hP 2 0 rfl rfl (vp_in_nI (by omega) (by omega)) dX9_parts_31 ?_
          refine my_eqi (y := ms k) (congrArg ms (nI_clamp (by omega))) ?_
          have hb_9 := hR_ms k
          obtain ⟨w_10, ew_10, hw_10⟩ : ∃ w : Nat, (ms k) = nI w ∧ (w : Int) = (ms k : Int32).toInt := my_natE (by omega)
          refine my_eqi (y := nI w_10) ew_10 ?_
          refine va_iald hx hb hK hP 1 0 rfl rfl (vp_in_nI (by omega) (by omega)) dX9_parts_32 ?_
          refine my_eqi (y := mn w_10) (congrArg mn (nI_clamp (by omega))) ?_
          have hb_11 := hR_mn w_10
          obtain ⟨w_12, ew_12, hw_12⟩ : ∃ w : Nat, (mn w_10) = nI w ∧ (w : Int) = (mn w_10 : Int32).toInt := my_natE (by omega)
          refine my_eqi (y := nI w_12) ew_12 ?_
          refine lv_iload_n hx hb dX9_parts_33 rfl (lv_at hl 4 rfl) ?_
          refine lv_ishr hx hb dX9_parts_34 ?_
          refine my_eqi (y := nI (w_12 / 2 ^ bb)) (my_shrG (by omega) (by omega)) ?_
          refine lv_iconst (v := 1) hx hb dX9_parts_35 (by decide +kernel) ?_
          refine lv_iand hx hb dX9_parts_36 ?_
          refine my_eqi (y := nI ((w_12 / 2 ^ bb) % 2)) (my_maskN _ 1) ?_
          refine lv_iload_n hx hb dX9_parts_37 rfl (lv_at hl 1 rfl) ?_
          refine lv_icmp_ne (tgt := 57) hx hb dX9_parts_38 (by decide) (fun c38 => ?_) (fun c38 => ?_)
          ·
            have d38 : (((w_12 / 2 ^ bb) % 2 : Nat) : Int) ≠ (0 : Int) := my_ne c38 (nI_toInt (by omega)) (by decide +kernel)
            refine lv_iinc (v := nI (k + 1)) (lv' := [(4, .int (nI (k + 1))), (3, .int 0), (2, .int (nI n)), (0, .ref m0), (1, .int (nI bb))]) hx hb dX9_parts_57 hl (k := 0) rfl (my_incN k 1 (by decide +kernel)) (by decide) rfl (fun ls hl => ?_)
            refine lv_goto (tgt := 12) hx hb dX9_parts_60 (by decide) ?_
            exact ih12  (k + 1) n a_parted_12 (by omega) (by first | assumption | omega | decide +kernel) (by first | assumption | omega | decide +kernel) (by first | exact ct_yes hn (pb_t (by assumption) (by assumption) (by omega) (by omega) (by omega)) | exact ct_no hn (pb_f (by assumption) (by assumption) (by omega) (by omega) (by omega))) (by first | exact pq_new0 hq0 (by assumption) hn rfl | exact pq_old0 hq0 (pb_f (by assumption) (by assumption) (by omega) (by omega) (by omega))) hR_a_parted_12 _ _ ls hP hD hS (lv_sub hl [0, 1, 2, 3, 4] rfl)
          ·
            have d38 : (((w_12 / 2 ^ bb) % 2 : Nat) : Int) = (0 : Int) := my_eq c38 (nI_toInt (by omega)) (by decide +kernel)
            have hcs9 : fb_ct (fun k => !boP mn ms bb k) (k + 1) = fb_ct (fun k => !boP mn ms bb k) k + 1 := by first | exact (ct_no (a := fb_ct (fun k => !boP mn ms bb k) k) rfl (pb_f (by assumption) (by assumption) (by omega) (by omega) (by omega))).symm | exact (ct_yes (a := fb_ct (fun k => !boP mn ms bb k) k) rfl (pb_t (by assumption) (by assumption) (by omega) (by omega) (by omega))).symm
            refine lv_aload_n hx hb dX9_parts_41 rfl (lv_at hl 3 rfl) ?_
            refine va_get (ci := 9) (v := .ref a_parted) (C := RX9) (T := TX9) (N := 24) hx hb hts hi9 hown hK hP 0 rfl rfl 13 (by decide) fl61 (fun _ h9 => h9) rfl dX9_parts_42 ?_
            refine lv_iload_n hx hb dX9_parts_45 rfl (lv_at hl 2 rfl) ?_
            refine lv_aload_n hx hb dX9_parts_46 rfl (lv_at hl 3 rfl) ?_
            refine va_get (ci := 9) (v := .ref a_stands) (C := RX9) (T := TX9) (N := 24) hx hb hts hi9 hown hK hP 0 rfl rfl 12 (by decide) fl58 (fun _ h9 => h9) rfl dX9_parts_47 ?_
            refine lv_iload hx hb dX9_parts_50 (lv_at hl 0 rfl) ?_
            refine va_iald hx hb hK hP 2 0 rfl rfl (vp_in_nI (by omega) (by omega)) dX9_parts_52 ?_
            refine my_eqi (y := ms k) (congrArg ms (nI_clamp (by omega))) ?_
            have hb_13 := hR_ms k
            refine va_iast hx hb hK hP hD hS 3 0 rfl rfl (vp_in_nI (by omega) (by omega)) dX9_parts_53 (fun H locs hP hD hS => ?_)
            obtain ⟨g_14, eg_14⟩ : ∃ g : Nat → Int32, g = upd a_parted_12 n (ms k) := ⟨_, rfl⟩
            have eU : upd a_parted_12 (nI n : Int32).toNatClampNeg (ms k) = g_14 := by rw [eg_14, show (nI n : Int32).toNatClampNeg = n from nI_clamp (by omega)]
            rw [eU] at hP hD
            have hR_g_14 : RB 0 63 g_14 := by rw [eg_14]; exact hR_a_parted_12.upd rfl (by omega) (by omega)
            have hP : va_P D vwCl (wl_kf_X9_parts cI cJ cK m0 a_row a_tape a_number a_read a_readBits a_stands a_parted a_bitsWere a_stood a_chosen a_bestChosen a_often a_sorted a_risen a_risenWays m_thrown (nI m_told) (nI m_taped) (nI m_at) (nI m_to) (nI m_many) (nI m_readMany) m_fewest (nI m_size) mn ms g_14) H := hP
            have hD : va_D A (wl_kf_X9_parts cI cJ cK m0 a_row a_tape a_number a_read a_readBits a_stands a_parted a_bitsWere a_stood a_chosen a_bestChosen a_often a_sorted a_risen a_risenWays m_thrown (nI m_told) (nI m_taped) (nI m_at) (nI m_to) (nI m_many) (nI m_readMany) m_fewest (nI m_size) mn ms g_14) := hD
            refine lv_iinc (v := nI (n + 1)) (lv' := [(2, .int (nI (n + 1))), (4, .int (nI k)), (3, .int 0), (0, .ref m0), (1, .int (nI bb))]) hx hb dX9_parts_54 hl (k := 2) rfl (my_incN n 1 (by decide +kernel)) (by decide) rfl (fun ls hl => ?_)
            refine lv_iinc (v := nI (k + 1)) (lv' := [(4, .int (nI (k + 1))), (2, .int (nI (n + 1))), (3, .int 0), (0, .ref m0), (1, .int (nI bb))]) hx hb dX9_parts_57 hl (k := 1) rfl (my_incN k 1 (by decide +kernel)) (by decide) rfl (fun ls hl => ?_)
            refine lv_goto (tgt := 12) hx hb dX9_parts_60 (by decide) ?_
            exact ih12  (k + 1) (n + 1) g_14 (by omega) (by first | assumption | omega | decide +kernel) (by first | assumption | omega | decide +kernel) (by first | exact ct_yes hn (pb_t (by assumption) (by assumption) (by omega) (by omega) (by omega)) | exact ct_no hn (pb_f (by assumption) (by assumption) (by omega) (by omega) (by omega))) (by first | exact pq_new0 hq0 (by assumption) hn rfl | exact pq_old0 hq0 (pb_f (by assumption) (by assumption) (by omega) (by omega) (by omega))) hR_g_14 _ _ ls hP hD hS (lv_sub hl [0, 2, 1, 3, 4] rfl)
    exact loop12 ((m_many - 0) + 1) 0 0 mp (Nat.lt_succ_self _) (by first | assumption | omega | decide +kernel) (by first | assumption | omega | decide +kernel) (rfl) (fun q h => absurd h (Nat.not_lt_zero q)) hR_mp _ _ ls hP hD hS (lv_sub hl [0, 1, 2, 3, 4] rfl)
abbrev wl_kf_X9_laysLevel (cI cJ cK : ClassId) (m0 : Nat) (a_row : Nat) (a_tape : Nat) (a_number : Nat) (a_read : Nat) (a_readBits : Nat) (a_stands : Nat) (a_parted : Nat) (a_bitsWere : Nat) (a_stood : Nat) (a_chosen : Nat) (a_bestChosen : Nat) (a_often : Nat) (a_sorted : Nat) (a_risen : Nat) (a_risenWays : Nat) (v0_ : Int32) (v1_ : Int32) (v2_ : Int32) (v3_ : Int32) (v4_ : Int32) (v5_ : Int32) (v6_ : Int32) (v7_ : Int32) (v8_ : Int32) (v9_ : Nat → Int32) (v10_ : Nat → Int32) (v11_ : Nat → Int32) : va_W := [(m0, .inr (9, [.int v0_, .int v1_, .ref a_row, .ref a_tape, .int v2_, .int v3_, .int v4_, .int v5_, .ref a_number, .ref a_read, .int v6_, .ref a_readBits, .ref a_stands, .ref a_parted, .ref a_bitsWere, .ref a_stood, .ref a_chosen, .ref a_bestChosen, .int v7_, .ref a_often, .ref a_sorted, .int v8_, .ref a_risen, .ref a_risenWays])), (a_number, .inl (cI, 64, .inl v9_)), (a_stands, .inl (cI, 64, .inl v10_)), (a_parted, .inl (cI, 64, .inl v11_))]
set_option maxHeartbeats 4000000 in
set_option maxRecDepth 100000 in
theorem kf_X9_laysLevel (l : Launch) (D : va_G) (cI cJ cK : ClassId) (m0 : Nat) (a_row : Nat) (a_tape : Nat) (a_number : Nat) (a_read : Nat) (a_readBits : Nat) (a_stands : Nat) (a_parted : Nat) (a_bitsWere : Nat) (a_stood : Nat) (a_chosen : Nat) (a_bestChosen : Nat) (a_often : Nat) (a_sorted : Nat) (a_risen : Nat) (a_risenWays : Nat) (m_thrown : Int32) (m_told : Nat) (m_taped : Nat) (m_at : Nat) (m_to : Nat) (m_many : Nat) (m_readMany : Nat) (m_fewest : Int32) (m_size : Nat) (mn : Nat → Int32) (ms : Nat → Int32) (mp : Nat → Int32) (jj : Nat) (hz_m_told : m_told ≤ 64) (hz_m_taped : m_taped ≤ 100) (hz_m_at : m_at ≤ 100) (hz_m_to : m_to ≤ 100) (hz_m_many : m_many ≤ 64) (hz_m_readMany : m_readMany ≤ 64) (hz_m_size : m_size ≤ 64) (hR_mn : RB 0 255 mn) (hR_ms : RB 0 63 ms) (hR_mp : RB 0 63 mp) (hj8 : jj ≤ 8) : ctV l yX9_laysLevel wsX9_laysLevel ({ frames := 1, cells := 0, slots := 0, locals := 60 } : Room) D (tyIJ cI cJ cK) [.ref m0, .int (nI jj)] (wl_kf_X9_laysLevel cI cJ cK m0 a_row a_tape a_number a_read a_readBits a_stands a_parted a_bitsWere a_stood a_chosen a_bestChosen a_often a_sorted a_risen a_risenWays m_thrown (nI m_told) (nI m_taped) (nI m_at) (nI m_to) (nI m_many) (nI m_readMany) m_fewest (nI m_size) mn ms mp) (fun (u : va_W) => ∃ (ms' : Nat → Int32) (mp' : Nat → Int32), u = (wl_kf_X9_laysLevel cI cJ cK m0 a_row a_tape a_number a_read a_readBits a_stands a_parted a_bitsWere a_stood a_chosen a_bestChosen a_often a_sorted a_risen a_risenWays m_thrown (nI m_told) (nI m_taped) (nI m_at) (nI m_to) (nI m_many) (nI m_readMany) m_fewest (nI m_size) mn ms' mp') ∧ RB 0 63 ms' ∧ RB 0 63 mp' ∧ (∀ i, i < m_many → ms' i = nI (ordF mn m_many jj i))) := by
  refine ctV.of (cc := cX9_laysLevel) (maxL := 3) (ret := none) (by decide) rfl (Nat.le_of_ble_eq_true rfl) ?_
  intro p e s m below meth c ls A hx hb hr hts hown hml hlocks hname hA hK hN hP hD hS hl
  have hl : lv_has ls 3 [(0, .ref m0), (1, .int (nI jj))] := hl
  have hown : s.vm.findClass RX9 = some m.cls := hown
  refine lv_aload_n hx hb dX9_laysLevel_0 rfl (lv_at hl 0 rfl) ?_
  refine my_goVS (wc := (wl_k_X9_begins cI cJ cK m0 a_row a_tape a_number a_read a_readBits a_stands a_parted a_bitsWere a_stood a_chosen a_bestChosen a_often a_sorted a_risen a_risenWays m_thrown (nI m_told) (nI m_taped) (nI m_at) (nI m_to) (nI m_many) (nI m_readMany) m_fewest (nI m_size) ms)) hP hD hS hA [0, 2] rfl [some 0, none, some 1] (by decide +kernel) (my_cV (As := []) (rest := []) (ci := 9) (wc := (wl_k_X9_begins cI cJ cK m0 a_row a_tape a_number a_read a_readBits a_stands a_parted a_bitsWere a_stood a_chosen a_bestChosen a_often a_sorted a_risen a_risenWays m_thrown (nI m_told) (nI m_taped) (nI m_at) (nI m_to) (nI m_many) (nI m_readMany) m_fewest (nI m_size) ms)) ⟨hx, hb, hml, hown, hts⟩ (cwV 0 hts gX9_laysLevel_X9_begins rfl rfl rfl (by decide +kernel) ⟨Nat.le_of_ble_eq_true rfl, Nat.le_of_ble_eq_true rfl⟩) hN hK hP hD [0, 2] rfl (by decide) rfl 0 rfl rfl rfl rfl hl.1 rfl (Nat.le_of_ble_eq_true rfl) dX9_laysLevel_1 ⟨Nat.le_of_ble_eq_true rfl, Nat.le_of_ble_eq_true rfl⟩  ((k_X9_begins l D cI cJ cK m0 a_row a_tape a_number a_read a_readBits a_stands a_parted a_bitsWere a_stood a_chosen a_bestChosen a_often a_sorted a_risen a_risenWays m_thrown m_told m_taped m_at m_to m_many m_readMany m_fewest m_size ms (by first | assumption | omega | decide +kernel) (by first | assumption | omega | decide +kernel) (by first | assumption | omega | decide +kernel) (by first | assumption | omega | decide +kernel) (by first | assumption | omega | decide +kernel) (by first | assumption | omega | decide +kernel) (by first | assumption | omega | decide +kernel) hR_ms) _)) (fun u H locs hp hPD hS => ?_)
  obtain ⟨ms_1, rfl, hR_ms_1, hst⟩ := hp
  obtain ⟨hP, hD⟩ := hPD rfl
  have hP : va_P D vwCl (wl_kf_X9_laysLevel cI cJ cK m0 a_row a_tape a_number a_read a_readBits a_stands a_parted a_bitsWere a_stood a_chosen a_bestChosen a_often a_sorted a_risen a_risenWays m_thrown (nI m_told) (nI m_taped) (nI m_at) (nI m_to) (nI m_many) (nI m_readMany) m_fewest (nI m_size) mn ms_1 mp) H := hP
  have hD : va_D A (wl_kf_X9_laysLevel cI cJ cK m0 a_row a_tape a_number a_read a_readBits a_stands a_parted a_bitsWere a_stood a_chosen a_bestChosen a_often a_sorted a_risen a_risenWays m_thrown (nI m_told) (nI m_taped) (nI m_at) (nI m_to) (nI m_many) (nI m_readMany) m_fewest (nI m_size) mn ms_1 mp) := hD
  refine lv_iconst (v := 0) hx hb dX9_laysLevel_4 (by decide +kernel) ?_
  refine lv_istore_n (lv' := [(2, .int 0), (0, .ref m0), (1, .int (nI jj))]) hx hb dX9_laysLevel_5 rfl hl (by decide) rfl (fun ls hl => ?_)
  have loop6 : ∀ (n9 : Nat) (k : Nat) (a_stands_6 : Nat → Int32) (a_parted_6 : Nat → Int32), jj - k < n9 → (k ≤ jj) → (∀ i, i < m_many → a_stands_6 i = nI (ordF mn m_many k i)) → (RB 0 63 a_stands_6) → (RB 0 63 a_parted_6) → ∀ (H : Heap) (locs : List Loc) (ls : Array Slot), va_P D vwCl (wl_kf_X9_laysLevel cI cJ cK m0 a_row a_tape a_number a_read a_readBits a_stands a_parted a_bitsWere a_stood a_chosen a_bestChosen a_often a_sorted a_risen a_risenWays m_thrown (nI m_told) (nI m_taped) (nI m_at) (nI m_to) (nI m_many) (nI m_readMany) m_fewest (nI m_size) mn a_stands_6 a_parted_6) H → va_D A (wl_kf_X9_laysLevel cI cJ cK m0 a_row a_tape a_number a_read a_readBits a_stands a_parted a_bitsWere a_stood a_chosen a_bestChosen a_often a_sorted a_risen a_risenWays m_thrown (nI m_told) (nI m_taped) (nI m_at) (nI m_to) (nI m_many) (nI m_readMany) m_fewest (nI m_size) mn a_stands_6 a_parted_6) → va_S A s.heap H locs → lv_has ls 3 [(2, .int (nI k)), (0, .ref m0), (1, .int (nI jj))] → W p l e ({ frames := 1, cells := 0, slots := 0, locals := 60 } : Room) s m [.ref m0, .int (nI jj)].toArray below meth c H locs 0 0 (MQ below (va_Qv (fun (u : va_W) => ∃ (ms' : Nat → Int32) (mp' : Nat → Int32), u = (wl_kf_X9_laysLevel cI cJ cK m0 a_row a_tape a_number a_read a_readBits a_stands a_parted a_bitsWere a_stood a_chosen a_bestChosen a_often a_sorted a_risen a_risenWays m_thrown (nI m_told) (nI m_taped) (nI m_at) (nI m_to) (nI m_many) (nI m_readMany) m_fewest (nI m_size) mn ms' mp') ∧ RB 0 63 ms' ∧ RB 0 63 mp' ∧ (∀ i, i < m_many → ms' i = nI (ordF mn m_many jj i))) (my_B D (tyIJ cI cJ cK) A) A) [.ref m0, .int (nI jj)].toArray s 0 0 A) (F0 m 6 ls []) := by
    intro n9
    induction n9 with
    | zero =>
      intro k a_stands_6 a_parted_6 hn9
      exact absurd hn9 (Nat.not_lt_zero _)
    | succ n9 ih6 =>
      intro k a_stands_6 a_parted_6 hn9 hk_k hor hR_a_stands_6 hR_a_parted_6 H locs ls hP hD hS hl
      refine lv_iload_n hx hb dX9_laysLevel_6 rfl (lv_at hl 0 rfl) ?_
      refine lv_iload_n hx hb dX9_laysLevel_7 rfl (lv_at hl 2 rfl) ?_
      refine lv_icmp_ge (tgt := 25) hx hb dX9_laysLevel_8 (by decide) (fun c8 => ?_) (fun c8 => ?_)
      ·
        have d8 : ((k : Nat) : Int) ≥ ((jj : Nat) : Int) := my_ge c8 (nI_toInt (by omega)) (nI_toInt (by omega))
        exact my_retV hx hb hr hlocks hK hS (wl_kf_X9_laysLevel cI cJ cK m0 a_row a_tape a_number a_read a_readBits a_stands a_parted a_bitsWere a_stood a_chosen a_bestChosen a_often a_sorted a_risen a_risenWays m_thrown (nI m_told) (nI m_taped) (nI m_at) (nI m_to) (nI m_many) (nI m_readMany) m_fewest (nI m_size) mn a_stands_6 a_parted_6) hP hD (⟨a_stands_6, a_parted_6, rfl, hR_a_stands_6, hR_a_parted_6, (by rw [show jj = k from (by omega)]; exact hor)⟩) dX9_laysLevel_25
      ·
        have d8 : ((k : Nat) : Int) < ((jj : Nat) : Int) := my_nge c8 (nI_toInt (by omega)) (nI_toInt (by omega))
        refine lv_aload_n hx hb dX9_laysLevel_11 rfl (lv_at hl 1 rfl) ?_
        refine lv_bipush (v := 7) hx hb dX9_laysLevel_12 (by decide +kernel) ?_
        refine lv_iload_n hx hb dX9_laysLevel_14 rfl (lv_at hl 0 rfl) ?_
        refine lv_isub hx hb dX9_laysLevel_15 ?_
        refine my_eqi (y := nI (7 - k)) (my_subN (a := 7) (b := k) (by omega)) ?_
        refine my_goVS (wc := (wl_kf_X9_parts cI cJ cK m0 a_row a_tape a_number a_read a_readBits a_stands a_parted a_bitsWere a_stood a_chosen a_bestChosen a_often a_sorted a_risen a_risenWays m_thrown (nI m_told) (nI m_taped) (nI m_at) (nI m_to) (nI m_many) (nI m_readMany) m_fewest (nI m_size) mn a_stands_6 a_parted_6)) hP hD hS hA [0, 1, 2, 3] rfl [some 0, some 1, some 2, some 3] (by decide +kernel) (my_cV (As := [.int (nI (7 - k))]) (rest := []) (ci := 9) (wc := (wl_kf_X9_parts cI cJ cK m0 a_row a_tape a_number a_read a_readBits a_stands a_parted a_bitsWere a_stood a_chosen a_bestChosen a_often a_sorted a_risen a_risenWays m_thrown (nI m_told) (nI m_taped) (nI m_at) (nI m_to) (nI m_many) (nI m_readMany) m_fewest (nI m_size) mn a_stands_6 a_parted_6)) ⟨hx, hb, hml, hown, hts⟩ (cwV 1 hts gX9_laysLevel_X9_parts rfl rfl rfl (by decide +kernel) ⟨Nat.le_of_ble_eq_true rfl, Nat.le_of_ble_eq_true rfl⟩) hN hK hP hD [0, 1, 2, 3] rfl (by decide) rfl 0 rfl rfl rfl rfl hl.1 rfl (Nat.le_of_ble_eq_true rfl) dX9_laysLevel_16 ⟨Nat.le_of_ble_eq_true rfl, Nat.le_of_ble_eq_true rfl⟩  ((kf_X9_parts l D cI cJ cK m0 a_row a_tape a_number a_read a_readBits a_stands a_parted a_bitsWere a_stood a_chosen a_bestChosen a_often a_sorted a_risen a_risenWays m_thrown m_told m_taped m_at m_to m_many m_readMany m_fewest m_size mn a_stands_6 a_parted_6 (7 - k) (by first | assumption | omega | decide +kernel) (by first | assumption | omega | decide +kernel) (by first | assumption | omega | decide +kernel) (by first | assumption | omega | decide +kernel) (by first | assumption | omega | decide +kernel) (by first | assumption | omega | decide +kernel) (by first | assumption | omega | decide +kernel) hR_mn hR_a_stands_6 hR_a_parted_6 (by first | assumption | omega | decide +kernel)) _)) (fun u H locs hp hPD hS => ?_)
        obtain ⟨ms_2, mp_3, rfl, hR_ms_2, hR_mp_3, hpt⟩ := hp
        obtain ⟨hP, hD⟩ := hPD rfl
        have hP : va_P D vwCl (wl_kf_X9_laysLevel cI cJ cK m0 a_row a_tape a_number a_read a_readBits a_stands a_parted a_bitsWere a_stood a_chosen a_bestChosen a_often a_sorted a_risen a_risenWays m_thrown (nI m_told) (nI m_taped) (nI m_at) (nI m_to) (nI m_many) (nI m_readMany) m_fewest (nI m_size) mn ms_2 mp_3) H := hP
        have hD : va_D A (wl_kf_X9_laysLevel cI cJ cK m0 a_row a_tape a_number a_read a_readBits a_stands a_parted a_bitsWere a_stood a_chosen a_bestChosen a_often a_sorted a_risen a_risenWays m_thrown (nI m_told) (nI m_taped) (nI m_at) (nI m_to) (nI m_many) (nI m_readMany) m_fewest (nI m_size) mn ms_2 mp_3) := hD
        refine lv_iinc (v := nI (k + 1)) (lv' := [(2, .int (nI (k + 1))), (0, .ref m0), (1, .int (nI jj))]) hx hb dX9_laysLevel_19 hl (k := 0) rfl (my_incN k 1 (by decide +kernel)) (by decide) rfl (fun ls hl => ?_)
        refine lv_goto (tgt := 6) hx hb dX9_laysLevel_22 (by decide) ?_
        exact ih6  (k + 1) ms_2 mp_3 (by omega) (by first | assumption | omega | decide +kernel) (ly_step hpt hor (by omega)) hR_ms_2 hR_mp_3 _ _ ls hP hD hS (lv_sub hl [0, 1, 2] rfl)
  exact loop6 ((jj - 0) + 1) 0 ms_1 mp (Nat.lt_succ_self _) (by first | assumption | omega | decide +kernel) (hst) hR_ms_1 hR_mp _ _ ls hP hD hS (lv_sub hl [0, 1, 2] rfl)
set_option maxHeartbeats 4000000 in
set_option maxRecDepth 100000 in
theorem kf_X9_runsOf (l : Launch) (D : va_G) (cI cJ cK : ClassId) (m0 : Nat) (a_row : Nat) (a_tape : Nat) (a_number : Nat) (a_read : Nat) (a_readBits : Nat) (a_stands : Nat) (a_parted : Nat) (a_bitsWere : Nat) (a_stood : Nat) (a_chosen : Nat) (a_bestChosen : Nat) (a_often : Nat) (a_sorted : Nat) (a_risen : Nat) (a_risenWays : Nat) (m_thrown : Int32) (m_told : Nat) (m_taped : Nat) (m_at : Nat) (m_to : Nat) (m_many : Nat) (m_readMany : Nat) (m_fewest : Int32) (m_size : Nat) (mn : Nat → Int32) (ms : Nat → Int32) (bb : Nat) (hz_m_told : m_told ≤ 64) (hz_m_taped : m_taped ≤ 100) (hz_m_at : m_at ≤ 100) (hz_m_to : m_to ≤ 100) (hz_m_many : m_many ≤ 64) (hz_m_readMany : m_readMany ≤ 64) (hz_m_size : m_size ≤ 64) (hR_mn : RB 0 255 mn) (hR_ms : RB 0 63 ms) (hbb : bb ≤ 7) : cpI l yX9_runsOf wsX9_runsOf ({ frames := 1, cells := 0, slots := 0, locals := 60 } : Room) D (tyIJ cI cJ cK) [.ref m0, .int (nI bb)] [(m0, .inr (9, [.int m_thrown, .int (nI m_told), .ref a_row, .ref a_tape, .int (nI m_taped), .int (nI m_at), .int (nI m_to), .int (nI m_many), .ref a_number, .ref a_read, .int (nI m_readMany), .ref a_readBits, .ref a_stands, .ref a_parted, .ref a_bitsWere, .ref a_stood, .ref a_chosen, .ref a_bestChosen, .int m_fewest, .ref a_often, .ref a_sorted, .int (nI m_size), .ref a_risen, .ref a_risenWays])), (a_number, .inl (cI, 64, .inl mn)), (a_stands, .inl (cI, 64, .inl ms))] (fun (r : Int32) => ∃ (t' : Nat), r = nI t' ∧ t' = rnF (boP mn ms bb) m_many ∧ t' ≤ 64) := by
  refine cpI.of (cc := cX9_runsOf) (maxL := 4) (ret := (some .int)) (by decide) rfl (Nat.le_of_ble_eq_true rfl) ?_
  intro p e s m below meth c ls hx hb hr hts hown hml hlocks hname hK hN hP hl
  have hl : lv_has ls 4 [(0, .ref m0), (1, .int (nI bb))] := hl
  have hown : s.vm.findClass RX9 = some m.cls := hown
  have hi9 : ∀ w ∈ u_ws RX9 TX9 24, w ∈ wsX9_runsOf := by decide +kernel
  have fl49 := hts (.fieldLink RX9 49 "PlaneColumnModel" "number" "[I") (by decide +kernel)
  have fl58 := hts (.fieldLink RX9 58 "PlaneColumnModel" "stands" "[I") (by decide +kernel)
  have fl88 := hts (.fieldLink RX9 88 "PlaneColumnModel" "many" "I") (by decide +kernel)
  refine lv_iconst (v := 0) hx hb dX9_runsOf_0 (by decide +kernel) ?_
  refine lv_istore_n (lv' := [(2, .int 0), (0, .ref m0), (1, .int (nI bb))]) hx hb dX9_runsOf_1 rfl hl (by decide) rfl (fun ls hl => ?_)
  refine lv_iconst (v := 0) hx hb dX9_runsOf_2 (by decide +kernel) ?_
  refine lv_istore_n (lv' := [(3, .int 0), (2, .int 0), (0, .ref m0), (1, .int (nI bb))]) hx hb dX9_runsOf_3 rfl hl (by decide) rfl (fun ls hl => ?_)
  have loop4 : ∀ (n9 : Nat) (k : Nat) (t : Nat), 64 - k < n9 → (t ≤ 64) → (k ≤ 64) → (k ≤ m_many) → (t ≤ k) → (t = fb_ct (rnR (boP mn ms bb)) k) → ∀ (ls : Array Slot), lv_has ls 4 [(3, .int (nI k)), (2, .int (nI t)), (0, .ref m0), (1, .int (nI bb))] → W p l e ({ frames := 1, cells := 0, slots := 0, locals := 60 } : Room) s m [.ref m0, .int (nI bb)].toArray below meth c s.heap [] 0 0 (MQ below (vp_Si (fun (r : Int32) => ∃ (t' : Nat), r = nI t' ∧ t' = rnF (boP mn ms bb) m_many ∧ t' ≤ 64)) [.ref m0, .int (nI bb)].toArray s 0 0 (fun _ => False)) (F0 m 4 ls []) := by
    intro n9
    induction n9 with
    | zero =>
      intro k t hn9
      exact absurd hn9 (Nat.not_lt_zero _)
    | succ n9 ih4 =>
      intro k t hn9 hk_t hk_k hkm htk ht ls hl
      refine lv_iload_n hx hb dX9_runsOf_4 rfl (lv_at hl 0 rfl) ?_
      refine lv_aload_n hx hb dX9_runsOf_5 rfl (lv_at hl 2 rfl) ?_
      refine va_get (ci := 9) (v := .int (nI m_many)) (C := RX9) (T := TX9) (N := 24) hx hb hts hi9 hown hK hP 0 rfl rfl 7 (by decide) fl88 (fun _ h9 => h9) rfl dX9_runsOf_6 ?_
      refine lv_icmp_ge (tgt := 68) hx hb dX9_runsOf_9 (by decide) (fun c9 => ?_) (fun c9 => ?_)
      ·
        have d9 : ((k : Nat) : Int) ≥ ((m_many : Nat) : Int) := my_ge c9 (nI_toInt (by omega)) (nI_toInt (by omega))
        refine lv_iload_n hx hb dX9_runsOf_68 rfl (lv_at hl 1 rfl) ?_
        exact my_rpI hx hb hr hlocks (⟨t, rfl, (by rw [ht, show k = m_many from (by omega)]; exact rn_eq _ _), (by first | assumption | omega | trivial | decide +kernel)⟩) dX9_runsOf_69
      ·
        have d9 : ((k : Nat) : Int) < ((m_many : Nat) : Int) := my_nge c9 (nI_toInt (by omega)) (nI_toInt (by omega))
        refine lv_iload_n hx hb dX9_runsOf_12 rfl (lv_at hl 1 rfl) ?_
        refine lv_iload_n hx hb dX9_runsOf_13 rfl (lv_at hl 0 rfl) ?_
        refine lv_if_eq (tgt := 52) hx hb dX9_runsOf_14 (by decide) (fun c14 => ?_) (fun c14 => ?_)
        ·
          have d14 : ((k : Nat) : Int) = (0 : Int) := my_eq c14 (nI_toInt (by omega)) (by decide +kernel)
          refine lv_iconst (v := 1) hx hb dX9_runsOf_52 (by decide +kernel) ?_
          refine lv_goto (tgt := 57) hx hb dX9_runsOf_53 (by decide) ?_
          refine my_gpI (my_pS (As := [.int 1]) (rest := [.int (nI t)]) ⟨hx, hb, hml, hown, hts⟩ (va_cwS 1 hts gX9_runsOf_X9_flag rfl rfl rfl (by decide +kernel) ⟨Nat.le_of_ble_eq_true rfl, Nat.le_of_ble_eq_true rfl⟩) hN hK hP [] rfl rfl hl.1 rfl (Nat.le_of_ble_eq_true rfl) dX9_runsOf_57 ⟨Nat.le_of_ble_eq_true rfl, Nat.le_of_ble_eq_true rfl⟩  (k1_X9_flag l D cI cJ cK )) (fun r hp => ?_)
          obtain rfl := hp
          refine lv_iadd hx hb dX9_runsOf_60 ?_
          refine my_eqi (y := nI (t + 1)) (my_addN t 1) ?_
          refine lv_istore_n (lv' := [(2, .int (nI (t + 1))), (3, .int (nI k)), (0, .ref m0), (1, .int (nI bb))]) hx hb dX9_runsOf_61 rfl hl (by decide) rfl (fun ls hl => ?_)
          refine lv_iinc (v := nI (k + 1)) (lv' := [(3, .int (nI (k + 1))), (2, .int (nI (t + 1))), (0, .ref m0), (1, .int (nI bb))]) hx hb dX9_runsOf_62 hl (k := 1) rfl (my_incN k 1 (by decide +kernel)) (by decide) rfl (fun ls hl => ?_)
          refine lv_goto (tgt := 4) hx hb dX9_runsOf_65 (by decide) ?_
          exact ih4  (k + 1) (t + 1) (by omega) (by first | assumption | omega | decide +kernel) (by first | assumption | omega | decide +kernel) (by first | assumption | omega | decide +kernel) (by first | assumption | omega | decide +kernel) (by first | exact rr_y ht (by omega) | exact rr_n ht (by omega) (by omega)) ls (lv_sub hl [0, 1, 2, 3] rfl)
        ·
          have d14 : ((k : Nat) : Int) ≠ (0 : Int) := my_ne c14 (nI_toInt (by omega)) (by decide +kernel)
          refine lv_aload_n hx hb dX9_runsOf_17 rfl (lv_at hl 2 rfl) ?_
          refine va_get (ci := 9) (v := .ref a_number) (C := RX9) (T := TX9) (N := 24) hx hb hts hi9 hown hK hP 0 rfl rfl 8 (by decide) fl49 (fun _ h9 => h9) rfl dX9_runsOf_18 ?_
          refine lv_aload_n hx hb dX9_runsOf_21 rfl (lv_at hl 2 rfl) ?_
          refine va_get (ci := 9) (v := .ref a_stands) (C := RX9) (T := TX9) (N := 24) hx hb hts hi9 hown hK hP 0 rfl rfl 12 (by decide) fl58 (fun _ h9 => h9) rfl dX9_runsOf_22 ?_
          refine lv_iload_n hx hb dX9_runsOf_25 rfl (lv_at hl 0 rfl) ?_
          refine va_iald hx hb hK hP 2 0 rfl rfl (vp_in_nI (by omega) (by omega)) dX9_runsOf_26 ?_
          refine my_eqi (y := ms k) (congrArg ms (nI_clamp (by omega))) ?_
          have hb_1 := hR_ms k
          obtain ⟨w_2, ew_2, hw_2⟩ : ∃ w : Nat, (ms k) = nI w ∧ (w : Int) = (ms k : Int32).toInt := my_natE (by omega)
          refine my_eqi (y := nI w_2) ew_2 ?_
          refine va_iald hx hb hK hP 1 0 rfl rfl (vp_in_nI (by omega) (by omega)) dX9_runsOf_27 ?_
          refine my_eqi (y := mn w_2) (congrArg mn (nI_clamp (by omega))) ?_
          have hb_3 := hR_mn w_2
          obtain ⟨w_4, ew_4, hw_4⟩ : ∃ w : Nat, (mn w_2) = nI w ∧ (w : Int) = (mn w_2 : Int32).toInt := my_natE (by omega)
          refine my_eqi (y := nI w_4) ew_4 ?_
          refine lv_iload_n hx hb dX9_runsOf_28 rfl (lv_at hl 3 rfl) ?_
          refine lv_ishr hx hb dX9_runsOf_29 ?_
          refine my_eqi (y := nI (w_4 / 2 ^ bb)) (my_shrG (by omega) (by omega)) ?_
          refine lv_iconst (v := 1) hx hb dX9_runsOf_30 (by decide +kernel) ?_
          refine lv_iand hx hb dX9_runsOf_31 ?_
          refine my_eqi (y := nI ((w_4 / 2 ^ bb) % 2)) (my_maskN _ 1) ?_
          have hb9 := bo_n (f := mn) (o := ms) (bb := bb) (k := k) (by assumption) (by assumption) (by omega) (by omega)
          refine lv_aload_n hx hb dX9_runsOf_32 rfl (lv_at hl 2 rfl) ?_
          refine va_get (ci := 9) (v := .ref a_number) (C := RX9) (T := TX9) (N := 24) hx hb hts hi9 hown hK hP 0 rfl rfl 8 (by decide) fl49 (fun _ h9 => h9) rfl dX9_runsOf_33 ?_
          refine lv_aload_n hx hb dX9_runsOf_36 rfl (lv_at hl 2 rfl) ?_
          refine va_get (ci := 9) (v := .ref a_stands) (C := RX9) (T := TX9) (N := 24) hx hb hts hi9 hown hK hP 0 rfl rfl 12 (by decide) fl58 (fun _ h9 => h9) rfl dX9_runsOf_37 ?_
          refine lv_iload_n hx hb dX9_runsOf_40 rfl (lv_at hl 0 rfl) ?_
          refine lv_iconst (v := 1) hx hb dX9_runsOf_41 (by decide +kernel) ?_
          refine lv_isub hx hb dX9_runsOf_42 ?_
          refine my_eqi (y := nI (k - 1)) (my_subN (a := k) (b := 1) (by omega)) ?_
          refine va_iald hx hb hK hP 2 0 rfl rfl (vp_in_nI (by omega) (by omega)) dX9_runsOf_43 ?_
          refine my_eqi (y := ms (k - 1)) (congrArg ms (nI_clamp (by omega))) ?_
          have hb_5 := hR_ms (k - 1)
          obtain ⟨w_6, ew_6, hw_6⟩ : ∃ w : Nat, (ms (k - 1)) = nI w ∧ (w : Int) = (ms (k - 1) : Int32).toInt := my_natE (by omega)
          refine my_eqi (y := nI w_6) ew_6 ?_
          refine va_iald hx hb hK hP 1 0 rfl rfl (vp_in_nI (by omega) (by omega)) dX9_runsOf_44 ?_
          refine my_eqi (y := mn w_6) (congrArg mn (nI_clamp (by omega))) ?_
          have hb_7 := hR_mn w_6
          obtain ⟨w_8, ew_8, hw_8⟩ : ∃ w : Nat, (mn w_6) = nI w ∧ (w : Int) = (mn w_6 : Int32).toInt := my_natE (by omega)
          refine my_eqi (y := nI w_8) ew_8 ?_
          refine lv_iload_n hx hb dX9_runsOf_45 rfl (lv_at hl 3 rfl) ?_
          refine lv_ishr hx hb dX9_runsOf_46 ?_
          refine my_eqi (y := nI (w_8 / 2 ^ bb)) (my_shrG (by omega) (by omega)) ?_
          refine lv_iconst (v := 1) hx hb dX9_runsOf_47 (by decide +kernel) ?_
          refine lv_iand hx hb dX9_runsOf_48 ?_
          refine my_eqi (y := nI ((w_8 / 2 ^ bb) % 2)) (my_maskN _ 1) ?_
          have hb8 := bo_n (f := mn) (o := ms) (bb := bb) (k := k - 1) (by assumption) (by assumption) (by omega) (by omega)
          refine lv_icmp_eq (tgt := 56) hx hb dX9_runsOf_49 (by decide) (fun c49 => ?_) (fun c49 => ?_)
          ·
            have d49 : (((w_4 / 2 ^ bb) % 2 : Nat) : Int) = (((w_8 / 2 ^ bb) % 2 : Nat) : Int) := my_eq c49 (nI_toInt (by omega)) (nI_toInt (by omega))
            refine lv_iconst (v := 0) hx hb dX9_runsOf_56 (by decide +kernel) ?_
            refine my_gpI (my_pS (As := [.int 0]) (rest := [.int (nI t)]) ⟨hx, hb, hml, hown, hts⟩ (va_cwS 1 hts gX9_runsOf_X9_flag rfl rfl rfl (by decide +kernel) ⟨Nat.le_of_ble_eq_true rfl, Nat.le_of_ble_eq_true rfl⟩) hN hK hP [] rfl rfl hl.1 rfl (Nat.le_of_ble_eq_true rfl) dX9_runsOf_57 ⟨Nat.le_of_ble_eq_true rfl, Nat.le_of_ble_eq_true rfl⟩  (k0_X9_flag l D cI cJ cK )) (fun r hp => ?_)
            obtain rfl := hp
            refine lv_iadd hx hb dX9_runsOf_60 ?_
            refine my_eqi (y := nI t) (my_addN t 0) ?_
            refine lv_istore_n (lv' := [(2, .int (nI t)), (3, .int (nI k)), (0, .ref m0), (1, .int (nI bb))]) hx hb dX9_runsOf_61 rfl hl (by decide) rfl (fun ls hl => ?_)
            refine lv_iinc (v := nI (k + 1)) (lv' := [(3, .int (nI (k + 1))), (2, .int (nI t)), (0, .ref m0), (1, .int (nI bb))]) hx hb dX9_runsOf_62 hl (k := 1) rfl (my_incN k 1 (by decide +kernel)) (by decide) rfl (fun ls hl => ?_)
            refine lv_goto (tgt := 4) hx hb dX9_runsOf_65 (by decide) ?_
            exact ih4  (k + 1) t (by omega) (by first | assumption | omega | decide +kernel) (by first | assumption | omega | decide +kernel) (by first | assumption | omega | decide +kernel) (by first | assumption | omega | decide +kernel) (by first | exact rr_y ht (by omega) | exact rr_n ht (by omega) (by omega)) ls (lv_sub hl [0, 1, 2, 3] rfl)
          ·
            have d49 : (((w_4 / 2 ^ bb) % 2 : Nat) : Int) ≠ (((w_8 / 2 ^ bb) % 2 : Nat) : Int) := my_ne c49 (nI_toInt (by omega)) (nI_toInt (by omega))
            refine lv_iconst (v := 1) hx hb dX9_runsOf_52 (by decide +kernel) ?_
            refine lv_goto (tgt := 57) hx hb dX9_runsOf_53 (by decide) ?_
            refine my_gpI (my_pS (As := [.int 1]) (rest := [.int (nI t)]) ⟨hx, hb, hml, hown, hts⟩ (va_cwS 1 hts gX9_runsOf_X9_flag rfl rfl rfl (by decide +kernel) ⟨Nat.le_of_ble_eq_true rfl, Nat.le_of_ble_eq_true rfl⟩) hN hK hP [] rfl rfl hl.1 rfl (Nat.le_of_ble_eq_true rfl) dX9_runsOf_57 ⟨Nat.le_of_ble_eq_true rfl, Nat.le_of_ble_eq_true rfl⟩  (k1_X9_flag l D cI cJ cK )) (fun r hp => ?_)
            obtain rfl := hp
            refine lv_iadd hx hb dX9_runsOf_60 ?_
            refine my_eqi (y := nI (t + 1)) (my_addN t 1) ?_
            refine lv_istore_n (lv' := [(2, .int (nI (t + 1))), (3, .int (nI k)), (0, .ref m0), (1, .int (nI bb))]) hx hb dX9_runsOf_61 rfl hl (by decide) rfl (fun ls hl => ?_)
            refine lv_iinc (v := nI (k + 1)) (lv' := [(3, .int (nI (k + 1))), (2, .int (nI (t + 1))), (0, .ref m0), (1, .int (nI bb))]) hx hb dX9_runsOf_62 hl (k := 1) rfl (my_incN k 1 (by decide +kernel)) (by decide) rfl (fun ls hl => ?_)
            refine lv_goto (tgt := 4) hx hb dX9_runsOf_65 (by decide) ?_
            exact ih4  (k + 1) (t + 1) (by omega) (by first | assumption | omega | decide +kernel) (by first | assumption | omega | decide +kernel) (by first | assumption | omega | decide +kernel) (by first | assumption | omega | decide +kernel) (by first | exact rr_y ht (by omega) | exact rr_n ht (by omega) (by omega)) ls (lv_sub hl [0, 1, 2, 3] rfl)
  exact loop4 ((64 - 0) + 1) 0 0 (Nat.lt_succ_self _) (by first | assumption | omega | decide +kernel) (by first | assumption | omega | decide +kernel) (by first | assumption | omega | decide +kernel) (by first | assumption | omega | decide +kernel) (rfl) ls (lv_sub hl [0, 1, 2, 3] rfl)
abbrev wl_kf_X9_keepsBits (cI cJ cK : ClassId) (m0 : Nat) (a_row : Nat) (a_tape : Nat) (a_number : Nat) (a_read : Nat) (a_readBits : Nat) (a_stands : Nat) (a_parted : Nat) (a_bitsWere : Nat) (a_stood : Nat) (a_chosen : Nat) (a_bestChosen : Nat) (a_often : Nat) (a_sorted : Nat) (a_risen : Nat) (a_risenWays : Nat) (v0_ : Int32) (v1_ : Int32) (v2_ : Int32) (v3_ : Int32) (v4_ : Int32) (v5_ : Int32) (v6_ : Int32) (v7_ : Int32) (v8_ : Int32) (v9_ : Nat → Int32) (v10_ : Nat → Int32) (v11_ : Nat → Int32) (v12_ : Nat → Int32) : va_W := [(m0, .inr (9, [.int v0_, .int v1_, .ref a_row, .ref a_tape, .int v2_, .int v3_, .int v4_, .int v5_, .ref a_number, .ref a_read, .int v6_, .ref a_readBits, .ref a_stands, .ref a_parted, .ref a_bitsWere, .ref a_stood, .ref a_chosen, .ref a_bestChosen, .int v7_, .ref a_often, .ref a_sorted, .int v8_, .ref a_risen, .ref a_risenWays])), (a_number, .inl (cI, 64, .inl v9_)), (a_stands, .inl (cI, 64, .inl v10_)), (a_parted, .inl (cI, 64, .inl v11_)), (a_bitsWere, .inl (cI, 512, .inl v12_))]
set_option maxHeartbeats 4000000 in
set_option maxRecDepth 100000 in
theorem kf_X9_keepsBits (l : Launch) (D : va_G) (cI cJ cK : ClassId) (m0 : Nat) (a_row : Nat) (a_tape : Nat) (a_number : Nat) (a_read : Nat) (a_readBits : Nat) (a_stands : Nat) (a_parted : Nat) (a_bitsWere : Nat) (a_stood : Nat) (a_chosen : Nat) (a_bestChosen : Nat) (a_often : Nat) (a_sorted : Nat) (a_risen : Nat) (a_risenWays : Nat) (m_thrown : Int32) (m_told : Nat) (m_taped : Nat) (m_at : Nat) (m_to : Nat) (m_many : Nat) (m_readMany : Nat) (m_fewest : Int32) (m_size : Nat) (mn : Nat → Int32) (ms : Nat → Int32) (mp : Nat → Int32) (mw : Nat → Int32) (hz_m_told : m_told ≤ 64) (hz_m_taped : m_taped ≤ 100) (hz_m_at : m_at ≤ 100) (hz_m_to : m_to ≤ 100) (hz_m_many : m_many ≤ 64) (hz_m_readMany : m_readMany ≤ 64) (hz_m_size : m_size ≤ 64) (hR_mn : RB 0 255 mn) (hR_ms : RB 0 63 ms) (hR_mp : RB 0 63 mp) : ctV l yX9_keepsBits wsX9_keepsBits ({ frames := 2, cells := 0, slots := 0, locals := 120 } : Room) D (tyIJ cI cJ cK) [.ref m0] (wl_kf_X9_keepsBits cI cJ cK m0 a_row a_tape a_number a_read a_readBits a_stands a_parted a_bitsWere a_stood a_chosen a_bestChosen a_often a_sorted a_risen a_risenWays m_thrown (nI m_told) (nI m_taped) (nI m_at) (nI m_to) (nI m_many) (nI m_readMany) m_fewest (nI m_size) mn ms mp mw) (fun (u : va_W) => ∃ (ms' : Nat → Int32) (mp' : Nat → Int32) (mw' : Nat → Int32), u = (wl_kf_X9_keepsBits cI cJ cK m0 a_row a_tape a_number a_read a_readBits a_stands a_parted a_bitsWere a_stood a_chosen a_bestChosen a_often a_sorted a_risen a_risenWays m_thrown (nI m_told) (nI m_taped) (nI m_at) (nI m_to) (nI m_many) (nI m_readMany) m_fewest (nI m_size) mn ms' mp' mw') ∧ RB 0 63 ms' ∧ RB 0 63 mp' ∧ (∀ j, j < 8 → ∀ i, i < m_many → mw' (64 * j + i) = nI (bN (lvB mn m_many j i)))) := by
  refine ctV.of (cc := cX9_keepsBits) (maxL := 3) (ret := none) (by decide) rfl (Nat.le_of_ble_eq_true rfl) ?_
  intro p e s m below meth c ls A hx hb hr hts hown hml hlocks hname hA hK hN hP hD hS hl
  have hl : lv_has ls 3 [(0, .ref m0)] := hl
  have hown : s.vm.findClass RX9 = some m.cls := hown
  have hi9 : ∀ w ∈ u_ws RX9 TX9 24, w ∈ wsX9_keepsBits := by decide +kernel
  have fl49 := hts (.fieldLink RX9 49 "PlaneColumnModel" "number" "[I") (by decide +kernel)
  have fl58 := hts (.fieldLink RX9 58 "PlaneColumnModel" "stands" "[I") (by decide +kernel)
  have fl64 := hts (.fieldLink RX9 64 "PlaneColumnModel" "bitsWere" "[I") (by decide +kernel)
  have fl88 := hts (.fieldLink RX9 88 "PlaneColumnModel" "many" "I") (by decide +kernel)
  refine lv_iconst (v := 0) hx hb dX9_keepsBits_0 (by decide +kernel) ?_
  refine lv_istore_n (lv' := [(1, .int 0), (0, .ref m0)]) hx hb dX9_keepsBits_1 rfl hl (by decide) rfl (fun ls hl => ?_)
  have loop2 : ∀ (n9 : Nat) (j : Nat) (a_stands_2 : Nat → Int32) (a_parted_2 : Nat → Int32) (a_bitsWere_2 : Nat → Int32), 8 - j < n9 → (j ≤ 8) → (∀ q, q < j → ∀ i, i < m_many → a_bitsWere_2 (64 * q + i) = nI (bN (lvB mn m_many q i))) → (RB 0 63 a_stands_2) → (RB 0 63 a_parted_2) → ∀ (H : Heap) (locs : List Loc) (ls : Array Slot), va_P D vwCl (wl_kf_X9_keepsBits cI cJ cK m0 a_row a_tape a_number a_read a_readBits a_stands a_parted a_bitsWere a_stood a_chosen a_bestChosen a_often a_sorted a_risen a_risenWays m_thrown (nI m_told) (nI m_taped) (nI m_at) (nI m_to) (nI m_many) (nI m_readMany) m_fewest (nI m_size) mn a_stands_2 a_parted_2 a_bitsWere_2) H → va_D A (wl_kf_X9_keepsBits cI cJ cK m0 a_row a_tape a_number a_read a_readBits a_stands a_parted a_bitsWere a_stood a_chosen a_bestChosen a_often a_sorted a_risen a_risenWays m_thrown (nI m_told) (nI m_taped) (nI m_at) (nI m_to) (nI m_many) (nI m_readMany) m_fewest (nI m_size) mn a_stands_2 a_parted_2 a_bitsWere_2) → va_S A s.heap H locs → lv_has ls 3 [(1, .int (nI j)), (0, .ref m0)] → W p l e ({ frames := 2, cells := 0, slots := 0, locals := 120 } : Room) s m [.ref m0].toArray below meth c H locs 0 0 (MQ below (va_Qv (fun (u : va_W) => ∃ (ms' : Nat → Int32) (mp' : Nat → Int32) (mw' : Nat → Int32), u = (wl_kf_X9_keepsBits cI cJ cK m0 a_row a_tape a_number a_read a_readBits a_stands a_parted a_bitsWere a_stood a_chosen a_bestChosen a_often a_sorted a_risen a_risenWays m_thrown (nI m_told) (nI m_taped) (nI m_at) (nI m_to) (nI m_many) (nI m_readMany) m_fewest (nI m_size) mn ms' mp' mw') ∧ RB 0 63 ms' ∧ RB 0 63 mp' ∧ (∀ j, j < 8 → ∀ i, i < m_many → mw' (64 * j + i) = nI (bN (lvB mn m_many j i)))) (my_B D (tyIJ cI cJ cK) A) A) [.ref m0].toArray s 0 0 A) (F0 m 2 ls []) := by
    intro n9
    induction n9 with
    | zero =>
      intro j a_stands_2 a_parted_2 a_bitsWere_2 hn9
      exact absurd hn9 (Nat.not_lt_zero _)
    | succ n9 ih2 =>
      intro j a_stands_2 a_parted_2 a_bitsWere_2 hn9 hk_j hk2 hR_a_stands_2 hR_a_parted_2 H locs ls hP hD hS hl
      refine lv_iload_n hx hb dX9_keepsBits_2 rfl (lv_at hl 0 rfl) ?_
      refine lv_bipush (v := 8) hx hb dX9_keepsBits_3 (by decide +kernel) ?_
      refine lv_icmp_ge (tgt := 61) hx hb dX9_keepsBits_5 (by decide) (fun c5 => ?_) (fun c5 => ?_)
      ·
        have d5 : ((j : Nat) : Int) ≥ (8 : Int) := my_ge c5 (nI_toInt (by omega)) (by decide +kernel)
        exact my_retV hx hb hr hlocks hK hS (wl_kf_X9_keepsBits cI cJ cK m0 a_row a_tape a_number a_read a_readBits a_stands a_parted a_bitsWere a_stood a_chosen a_bestChosen a_often a_sorted a_risen a_risenWays m_thrown (nI m_told) (nI m_taped) (nI m_at) (nI m_to) (nI m_many) (nI m_readMany) m_fewest (nI m_size) mn a_stands_2 a_parted_2 a_bitsWere_2) hP hD (⟨a_stands_2, a_parted_2, a_bitsWere_2, rfl, hR_a_stands_2, hR_a_parted_2, (fun q hq => hk2 q (by omega))⟩) dX9_keepsBits_61
      ·
        have d5 : ((j : Nat) : Int) < (8 : Int) := my_nge c5 (nI_toInt (by omega)) (by decide +kernel)
        refine lv_aload_n hx hb dX9_keepsBits_8 rfl (lv_at hl 1 rfl) ?_
        refine lv_iload_n hx hb dX9_keepsBits_9 rfl (lv_at hl 0 rfl) ?_
        refine my_goVS (wc := (wl_kf_X9_laysLevel cI cJ cK m0 a_row a_tape a_number a_read a_readBits a_stands a_parted a_bitsWere a_stood a_chosen a_bestChosen a_often a_sorted a_risen a_risenWays m_thrown (nI m_told) (nI m_taped) (nI m_at) (nI m_to) (nI m_many) (nI m_readMany) m_fewest (nI m_size) mn a_stands_2 a_parted_2)) hP hD hS hA [0, 1, 2, 3] rfl [some 0, some 1, some 2, some 3] (by decide +kernel) (my_cV (As := [.int (nI j)]) (rest := []) (ci := 9) (wc := (wl_kf_X9_laysLevel cI cJ cK m0 a_row a_tape a_number a_read a_readBits a_stands a_parted a_bitsWere a_stood a_chosen a_bestChosen a_often a_sorted a_risen a_risenWays m_thrown (nI m_told) (nI m_taped) (nI m_at) (nI m_to) (nI m_many) (nI m_readMany) m_fewest (nI m_size) mn a_stands_2 a_parted_2)) ⟨hx, hb, hml, hown, hts⟩ (cwV 1 hts gX9_keepsBits_X9_laysLevel rfl rfl rfl (by decide +kernel) ⟨Nat.le_of_ble_eq_true rfl, Nat.le_of_ble_eq_true rfl⟩) hN hK hP hD [0, 1, 2, 3] rfl (by decide) rfl 0 rfl rfl rfl rfl hl.1 rfl (Nat.le_of_ble_eq_true rfl) dX9_keepsBits_10 ⟨Nat.le_of_ble_eq_true rfl, Nat.le_of_ble_eq_true rfl⟩  ((kf_X9_laysLevel l D cI cJ cK m0 a_row a_tape a_number a_read a_readBits a_stands a_parted a_bitsWere a_stood a_chosen a_bestChosen a_often a_sorted a_risen a_risenWays m_thrown m_told m_taped m_at m_to m_many m_readMany m_fewest m_size mn a_stands_2 a_parted_2 j (by first | assumption | omega | decide +kernel) (by first | assumption | omega | decide +kernel) (by first | assumption | omega | decide +kernel) (by first | assumption | omega | decide +kernel) (by first | assumption | omega | decide +kernel) (by first | assumption | omega | decide +kernel) (by first | assumption | omega | decide +kernel) hR_mn hR_a_stands_2 hR_a_parted_2 (by first | assumption | omega | decide +kernel)) _)) (fun u H locs hp hPD hS => ?_)
        obtain ⟨ms_1, mp_2, rfl, hR_ms_1, hR_mp_2, hly⟩ := hp
        obtain ⟨hP, hD⟩ := hPD rfl
        have hP : va_P D vwCl (wl_kf_X9_keepsBits cI cJ cK m0 a_row a_tape a_number a_read a_readBits a_stands a_parted a_bitsWere a_stood a_chosen a_bestChosen a_often a_sorted a_risen a_risenWays m_thrown (nI m_told) (nI m_taped) (nI m_at) (nI m_to) (nI m_many) (nI m_readMany) m_fewest (nI m_size) mn ms_1 mp_2 a_bitsWere_2) H := hP
        have hD : va_D A (wl_kf_X9_keepsBits cI cJ cK m0 a_row a_tape a_number a_read a_readBits a_stands a_parted a_bitsWere a_stood a_chosen a_bestChosen a_often a_sorted a_risen a_risenWays m_thrown (nI m_told) (nI m_taped) (nI m_at) (nI m_to) (nI m_many) (nI m_readMany) m_fewest (nI m_size) mn ms_1 mp_2 a_bitsWere_2) := hD
        refine lv_iconst (v := 0) hx hb dX9_keepsBits_13 (by decide +kernel) ?_
        refine lv_istore_n (lv' := [(2, .int 0), (1, .int (nI j)), (0, .ref m0)]) hx hb dX9_keepsBits_14 rfl hl (by decide) rfl (fun ls hl => ?_)
        have loop15 : ∀ (n9 : Nat) (k : Nat) (a_bitsWere_15 : Nat → Int32), 64 - k < n9 → (k ≤ 64) → (k ≤ m_many) → (∀ q, q < j → ∀ i, i < m_many → a_bitsWere_15 (64 * q + i) = nI (bN (lvB mn m_many q i))) → (∀ i, i < k → a_bitsWere_15 (64 * j + i) = nI (bN (lvB mn m_many j i))) → ∀ (H : Heap) (locs : List Loc) (ls : Array Slot), va_P D vwCl (wl_kf_X9_keepsBits cI cJ cK m0 a_row a_tape a_number a_read a_readBits a_stands a_parted a_bitsWere a_stood a_chosen a_bestChosen a_often a_sorted a_risen a_risenWays m_thrown (nI m_told) (nI m_taped) (nI m_at) (nI m_to) (nI m_many) (nI m_readMany) m_fewest (nI m_size) mn ms_1 mp_2 a_bitsWere_15) H → va_D A (wl_kf_X9_keepsBits cI cJ cK m0 a_row a_tape a_number a_read a_readBits a_stands a_parted a_bitsWere a_stood a_chosen a_bestChosen a_often a_sorted a_risen a_risenWays m_thrown (nI m_told) (nI m_taped) (nI m_at) (nI m_to) (nI m_many) (nI m_readMany) m_fewest (nI m_size) mn ms_1 mp_2 a_bitsWere_15) → va_S A s.heap H locs → lv_has ls 3 [(2, .int (nI k)), (1, .int (nI j)), (0, .ref m0)] → W p l e ({ frames := 2, cells := 0, slots := 0, locals := 120 } : Room) s m [.ref m0].toArray below meth c H locs 0 0 (MQ below (va_Qv (fun (u : va_W) => ∃ (ms' : Nat → Int32) (mp' : Nat → Int32) (mw' : Nat → Int32), u = (wl_kf_X9_keepsBits cI cJ cK m0 a_row a_tape a_number a_read a_readBits a_stands a_parted a_bitsWere a_stood a_chosen a_bestChosen a_often a_sorted a_risen a_risenWays m_thrown (nI m_told) (nI m_taped) (nI m_at) (nI m_to) (nI m_many) (nI m_readMany) m_fewest (nI m_size) mn ms' mp' mw') ∧ RB 0 63 ms' ∧ RB 0 63 mp' ∧ (∀ j, j < 8 → ∀ i, i < m_many → mw' (64 * j + i) = nI (bN (lvB mn m_many j i)))) (my_B D (tyIJ cI cJ cK) A) A) [.ref m0].toArray s 0 0 A) (F0 m 15 ls []) := by
          intro n9
          induction n9 with
          | zero =>
            intro k a_bitsWere_15 hn9
            exact absurd hn9 (Nat.not_lt_zero _)
          | succ n9 ih15 =>
            intro k a_bitsWere_15 hn9 hk_k hkm hka hkb H locs ls hP hD hS hl
            refine lv_iload_n hx hb dX9_keepsBits_15 rfl (lv_at hl 0 rfl) ?_
            refine lv_aload_n hx hb dX9_keepsBits_16 rfl (lv_at hl 2 rfl) ?_
            refine va_get (ci := 9) (v := .int (nI m_many)) (C := RX9) (T := TX9) (N := 24) hx hb hts hi9 hown hK hP 0 rfl rfl 7 (by decide) fl88 (fun _ h9 => h9) rfl dX9_keepsBits_17 ?_
            refine lv_icmp_ge (tgt := 55) hx hb dX9_keepsBits_20 (by decide) (fun c20 => ?_) (fun c20 => ?_)
            ·
              have d20 : ((k : Nat) : Int) ≥ ((m_many : Nat) : Int) := my_ge c20 (nI_toInt (by omega)) (nI_toInt (by omega))
              refine lv_iinc (v := nI (j + 1)) (lv' := [(1, .int (nI (j + 1))), (2, .int (nI k)), (0, .ref m0)]) hx hb dX9_keepsBits_55 hl (k := 1) rfl (my_incN j 1 (by decide +kernel)) (by decide) rfl (fun ls hl => ?_)
              refine lv_goto (tgt := 2) hx hb dX9_keepsBits_58 (by decide) ?_
              exact ih2  (j + 1) ms_1 mp_2 a_bitsWere_15 (by omega) (by first | assumption | omega | decide +kernel) (kb_next hka hkb (by omega)) hR_ms_1 hR_mp_2 _ _ ls hP hD hS (lv_sub hl [0, 2] rfl)
            ·
              have d20 : ((k : Nat) : Int) < ((m_many : Nat) : Int) := my_nge c20 (nI_toInt (by omega)) (nI_toInt (by omega))
              refine lv_aload_n hx hb dX9_keepsBits_23 rfl (lv_at hl 2 rfl) ?_
              refine va_get (ci := 9) (v := .ref a_bitsWere) (C := RX9) (T := TX9) (N := 24) hx hb hts hi9 hown hK hP 0 rfl rfl 14 (by decide) fl64 (fun _ h9 => h9) rfl dX9_keepsBits_24 ?_
              refine lv_bipush (v := 64) hx hb dX9_keepsBits_27 (by decide +kernel) ?_
              refine lv_iload_n hx hb dX9_keepsBits_29 rfl (lv_at hl 1 rfl) ?_
              refine lv_imul hx hb dX9_keepsBits_30 ?_
              refine my_eqi (y := nI (64 * j)) (my_mulN _ _) ?_
              refine lv_iload_n hx hb dX9_keepsBits_31 rfl (lv_at hl 0 rfl) ?_
              refine lv_iadd hx hb dX9_keepsBits_32 ?_
              refine my_eqi (y := nI (64 * j + k)) (nI_add _ _) ?_
              refine lv_aload_n hx hb dX9_keepsBits_33 rfl (lv_at hl 2 rfl) ?_
              refine va_get (ci := 9) (v := .ref a_number) (C := RX9) (T := TX9) (N := 24) hx hb hts hi9 hown hK hP 0 rfl rfl 8 (by decide) fl49 (fun _ h9 => h9) rfl dX9_keepsBits_34 ?_
              refine lv_aload_n hx hb dX9_keepsBits_37 rfl (lv_at hl 2 rfl) ?_
              refine va_get (ci := 9) (v := .ref a_stands) (C := RX9) (T := TX9) (N := 24) hx hb hts hi9 hown hK hP 0 rfl rfl 12 (by decide) fl58 (fun _ h9 => h9) rfl dX9_keepsBits_38 ?_
              refine lv_iload_n hx hb dX9_keepsBits_41 rfl (lv_at hl 0 rfl) ?_
              have hol := ordF_lt (f := mn) (n := m_many) j (show k < m_many by omega)
              refine va_iald hx hb hK hP 2 0 rfl rfl (vp_in_nI (by omega) (by omega)) dX9_keepsBits_42 ?_
              refine my_eqi (y := nI (ordF mn m_many j k)) ((congrArg _ (nI_clamp (by omega))).trans (hly k (by omega))) ?_
              refine va_iald hx hb hK hP 1 0 rfl rfl (vp_in_nI (by omega) (by omega)) dX9_keepsBits_43 ?_
              refine my_eqi (y := mn (ordF mn m_many j k)) (congrArg mn (nI_clamp (by omega))) ?_
              have hb_3 := hR_mn (ordF mn m_many j k)
              obtain ⟨w_4, ew_4, hw_4⟩ : ∃ w : Nat, (mn (ordF mn m_many j k)) = nI w ∧ (w : Int) = (mn (ordF mn m_many j k) : Int32).toInt := my_natE (by omega)
              refine my_eqi (y := nI w_4) ew_4 ?_
              refine lv_iload_n hx hb dX9_keepsBits_44 rfl (lv_at hl 1 rfl) ?_
              refine my_gpI (my_pS (As := [.int (nI w_4), .int (nI j)]) (rest := [.int (nI (64 * j + k)), .ref a_bitsWere]) ⟨hx, hb, hml, hown, hts⟩ (va_cwS 2 hts gX9_keepsBits_X9_bitOf rfl rfl rfl (by decide +kernel) ⟨Nat.le_of_ble_eq_true rfl, Nat.le_of_ble_eq_true rfl⟩) hN hK hP [] rfl rfl hl.1 rfl (Nat.le_of_ble_eq_true rfl) dX9_keepsBits_45 ⟨Nat.le_of_ble_eq_true rfl, Nat.le_of_ble_eq_true rfl⟩  (kf_X9_bitOf l D cI cJ cK w_4 j (by first | assumption | omega | decide +kernel) (by first | assumption | omega | decide +kernel))) (fun r hp => ?_)
              obtain ⟨k_5, rfl, hbo, hq_6⟩ := hp
              refine va_iast hx hb hK hP hD hS 4 0 rfl rfl (vp_in_nI (by omega) (by omega)) dX9_keepsBits_48 (fun H locs hP hD hS => ?_)
              obtain ⟨g_7, eg_7⟩ : ∃ g : Nat → Int32, g = upd a_bitsWere_15 (64 * j + k) (nI k_5) := ⟨_, rfl⟩
              have eU : upd a_bitsWere_15 (nI (64 * j + k) : Int32).toNatClampNeg (nI k_5) = g_7 := by rw [eg_7, show (nI (64 * j + k) : Int32).toNatClampNeg = 64 * j + k from nI_clamp (by omega)]
              rw [eU] at hP hD
              have hP : va_P D vwCl (wl_kf_X9_keepsBits cI cJ cK m0 a_row a_tape a_number a_read a_readBits a_stands a_parted a_bitsWere a_stood a_chosen a_bestChosen a_often a_sorted a_risen a_risenWays m_thrown (nI m_told) (nI m_taped) (nI m_at) (nI m_to) (nI m_many) (nI m_readMany) m_fewest (nI m_size) mn ms_1 mp_2 g_7) H := hP
              have hD : va_D A (wl_kf_X9_keepsBits cI cJ cK m0 a_row a_tape a_number a_read a_readBits a_stands a_parted a_bitsWere a_stood a_chosen a_bestChosen a_often a_sorted a_risen a_risenWays m_thrown (nI m_told) (nI m_taped) (nI m_at) (nI m_to) (nI m_many) (nI m_readMany) m_fewest (nI m_size) mn ms_1 mp_2 g_7) := hD
              refine lv_iinc (v := nI (k + 1)) (lv' := [(2, .int (nI (k + 1))), (1, .int (nI j)), (0, .ref m0)]) hx hb dX9_keepsBits_49 hl (k := 0) rfl (my_incN k 1 (by decide +kernel)) (by decide) rfl (fun ls hl => ?_)
              refine lv_goto (tgt := 15) hx hb dX9_keepsBits_52 (by decide) ?_
              exact ih15  (k + 1) g_7 (by omega) (by first | assumption | omega | decide +kernel) (by first | assumption | omega | decide +kernel) (kb_keep hka (by assumption) (by omega)) (kb_step hkb (by assumption) (by rw [hbo, lvb_at (by assumption) (by omega)])) _ _ ls hP hD hS (lv_sub hl [0, 1, 2] rfl)
        exact loop15 ((64 - 0) + 1) 0 a_bitsWere_2 (Nat.lt_succ_self _) (by first | assumption | omega | decide +kernel) (by first | assumption | omega | decide +kernel) (hk2) (fun q h => absurd h (Nat.not_lt_zero q)) _ _ ls hP hD hS (lv_sub hl [0, 1, 2] rfl)
  exact loop2 ((8 - 0) + 1) 0 ms mp mw (Nat.lt_succ_self _) (by first | assumption | omega | decide +kernel) (fun q h => absurd h (Nat.not_lt_zero q)) hR_ms hR_mp _ _ ls hP hD hS (lv_sub hl [0, 1] rfl)
abbrev wl_kf_X9_otherBits (cI cJ cK : ClassId) (m0 : Nat) (a_row : Nat) (a_tape : Nat) (a_number : Nat) (a_read : Nat) (a_readBits : Nat) (a_stands : Nat) (a_parted : Nat) (a_bitsWere : Nat) (a_stood : Nat) (a_chosen : Nat) (a_bestChosen : Nat) (a_often : Nat) (a_sorted : Nat) (a_risen : Nat) (a_risenWays : Nat) (v0_ : Int32) (v1_ : Int32) (v2_ : Int32) (v3_ : Int32) (v4_ : Int32) (v5_ : Int32) (v6_ : Int32) (v7_ : Int32) (v8_ : Int32) (v9_ : Nat → Int32) (v10_ : Nat → Int32) (v11_ : Nat → Int32) (v12_ : Nat → Int32) : va_W := [(m0, .inr (9, [.int v0_, .int v1_, .ref a_row, .ref a_tape, .int v2_, .int v3_, .int v4_, .int v5_, .ref a_number, .ref a_read, .int v6_, .ref a_readBits, .ref a_stands, .ref a_parted, .ref a_bitsWere, .ref a_stood, .ref a_chosen, .ref a_bestChosen, .int v7_, .ref a_often, .ref a_sorted, .int v8_, .ref a_risen, .ref a_risenWays])), (a_number, .inl (cI, 64, .inl v9_)), (a_stands, .inl (cI, 64, .inl v10_)), (a_parted, .inl (cI, 64, .inl v11_)), (a_bitsWere, .inl (cI, 512, .inl v12_))]
set_option maxHeartbeats 4000000 in
set_option maxRecDepth 100000 in
theorem kf_X9_otherBits (l : Launch) (D : va_G) (cI cJ cK : ClassId) (m0 : Nat) (a_row : Nat) (a_tape : Nat) (a_number : Nat) (a_read : Nat) (a_readBits : Nat) (a_stands : Nat) (a_parted : Nat) (a_bitsWere : Nat) (a_stood : Nat) (a_chosen : Nat) (a_bestChosen : Nat) (a_often : Nat) (a_sorted : Nat) (a_risen : Nat) (a_risenWays : Nat) (m_thrown : Int32) (m_told : Nat) (m_taped : Nat) (m_at : Nat) (m_to : Nat) (m_many : Nat) (m_readMany : Nat) (m_fewest : Int32) (m_size : Nat) (mn : Nat → Int32) (ms : Nat → Int32) (mp : Nat → Int32) (mw : Nat → Int32) (Bf : Nat → Nat → Bool) (hz_m_told : m_told ≤ 64) (hz_m_taped : m_taped ≤ 100) (hz_m_at : m_at ≤ 100) (hz_m_to : m_to ≤ 100) (hz_m_many : m_many ≤ 64) (hz_m_readMany : m_readMany ≤ 64) (hz_m_size : m_size ≤ 64) (hR_mn : RB 0 255 mn) (hR_ms : RB 0 63 ms) (hR_mp : RB 0 63 mp) (hBf : ∀ j, j < 8 → ∀ i, i < m_many → mw (64 * j + i) = nI (bN (Bf j i))) : ctI l yX9_otherBits wsX9_otherBits ({ frames := 2, cells := 0, slots := 0, locals := 120 } : Room) D (tyIJ cI cJ cK) [.ref m0] (wl_kf_X9_otherBits cI cJ cK m0 a_row a_tape a_number a_read a_readBits a_stands a_parted a_bitsWere a_stood a_chosen a_bestChosen a_often a_sorted a_risen a_risenWays m_thrown (nI m_told) (nI m_taped) (nI m_at) (nI m_to) (nI m_many) (nI m_readMany) m_fewest (nI m_size) mn ms mp mw) (fun (r : Int32) (u : va_W) => ∃ (t' : Nat) (ms' : Nat → Int32) (mp' : Nat → Int32), u = (wl_kf_X9_otherBits cI cJ cK m0 a_row a_tape a_number a_read a_readBits a_stands a_parted a_bitsWere a_stood a_chosen a_bestChosen a_often a_sorted a_risen a_risenWays m_thrown (nI m_told) (nI m_taped) (nI m_at) (nI m_to) (nI m_many) (nI m_readMany) m_fewest (nI m_size) mn ms' mp' mw) ∧ r = nI t' ∧ RB 0 63 ms' ∧ RB 0 63 mp' ∧ t' = fb_sm (fun j => fb_ct (fun i => lvB mn m_many j i ^^ Bf j i) m_many) 8) := by
  refine ctI.of (cc := cX9_otherBits) (maxL := 4) (ret := (some .int)) (by decide) rfl (Nat.le_of_ble_eq_true rfl) ?_
  intro p e s m below meth c ls A hx hb hr hts hown hml hlocks hname hA hK hN hP hD hS hl
  have hl : lv_has ls 4 [(0, .ref m0)] := hl
  have hown : s.vm.findClass RX9 = some m.cls := hown
  have hi9 : ∀ w ∈ u_ws RX9 TX9 24, w ∈ wsX9_otherBits := by decide +kernel
  have fl49 := hts (.fieldLink RX9 49 "PlaneColumnModel" "number" "[I") (by decide +kernel)
  have fl58 := hts (.fieldLink RX9 58 "PlaneColumnModel" "stands" "[I") (by decide +kernel)
  have fl64 := hts (.fieldLink RX9 64 "PlaneColumnModel" "bitsWere" "[I") (by decide +kernel)
  have fl88 := hts (.fieldLink RX9 88 "PlaneColumnModel" "many" "I") (by decide +kernel)
  refine lv_iconst (v := 0) hx hb dX9_otherBits_0 (by decide +kernel) ?_
  refine lv_istore_n (lv' := [(1, .int 0), (0, .ref m0)]) hx hb dX9_otherBits_1 rfl hl (by decide) rfl (fun ls hl => ?_)
  refine lv_iconst (v := 0) hx hb dX9_otherBits_2 (by decide +kernel) ?_
  refine lv_istore_n (lv' := [(2, .int 0), (1, .int 0), (0, .ref m0)]) hx hb dX9_otherBits_3 rfl hl (by decide) rfl (fun ls hl => ?_)
  have loop4 : ∀ (n9 : Nat) (j : Nat) (t : Nat) (a_stands_4 : Nat → Int32) (a_parted_4 : Nat → Int32), 8 - j < n9 → (j ≤ 8) → (t = fb_sm (fun j => fb_ct (fun i => lvB mn m_many j i ^^ Bf j i) m_many) j) → (RB 0 63 a_stands_4) → (RB 0 63 a_parted_4) → ∀ (H : Heap) (locs : List Loc) (ls : Array Slot), va_P D vwCl (wl_kf_X9_otherBits cI cJ cK m0 a_row a_tape a_number a_read a_readBits a_stands a_parted a_bitsWere a_stood a_chosen a_bestChosen a_often a_sorted a_risen a_risenWays m_thrown (nI m_told) (nI m_taped) (nI m_at) (nI m_to) (nI m_many) (nI m_readMany) m_fewest (nI m_size) mn a_stands_4 a_parted_4 mw) H → va_D A (wl_kf_X9_otherBits cI cJ cK m0 a_row a_tape a_number a_read a_readBits a_stands a_parted a_bitsWere a_stood a_chosen a_bestChosen a_often a_sorted a_risen a_risenWays m_thrown (nI m_told) (nI m_taped) (nI m_at) (nI m_to) (nI m_many) (nI m_readMany) m_fewest (nI m_size) mn a_stands_4 a_parted_4 mw) → va_S A s.heap H locs → lv_has ls 4 [(2, .int (nI j)), (1, .int (nI t)), (0, .ref m0)] → W p l e ({ frames := 2, cells := 0, slots := 0, locals := 120 } : Room) s m [.ref m0].toArray below meth c H locs 0 0 (MQ below (va_Qi (fun (r : Int32) (u : va_W) => ∃ (t' : Nat) (ms' : Nat → Int32) (mp' : Nat → Int32), u = (wl_kf_X9_otherBits cI cJ cK m0 a_row a_tape a_number a_read a_readBits a_stands a_parted a_bitsWere a_stood a_chosen a_bestChosen a_often a_sorted a_risen a_risenWays m_thrown (nI m_told) (nI m_taped) (nI m_at) (nI m_to) (nI m_many) (nI m_readMany) m_fewest (nI m_size) mn ms' mp' mw) ∧ r = nI t' ∧ RB 0 63 ms' ∧ RB 0 63 mp' ∧ t' = fb_sm (fun j => fb_ct (fun i => lvB mn m_many j i ^^ Bf j i) m_many) 8) (my_B D (tyIJ cI cJ cK) A) A) [.ref m0].toArray s 0 0 A) (F0 m 4 ls []) := by
    intro n9
    induction n9 with
    | zero =>
      intro j t a_stands_4 a_parted_4 hn9
      exact absurd hn9 (Nat.not_lt_zero _)
    | succ n9 ih4 =>
      intro j t a_stands_4 a_parted_4 hn9 hk_j ht hR_a_stands_4 hR_a_parted_4 H locs ls hP hD hS hl
      refine lv_iload_n hx hb dX9_otherBits_4 rfl (lv_at hl 0 rfl) ?_
      refine lv_bipush (v := 8) hx hb dX9_otherBits_5 (by decide +kernel) ?_
      refine lv_icmp_ge (tgt := 77) hx hb dX9_otherBits_7 (by decide) (fun c7 => ?_) (fun c7 => ?_)
      ·
        have d7 : ((j : Nat) : Int) ≥ (8 : Int) := my_ge c7 (nI_toInt (by omega)) (by decide +kernel)
        refine lv_iload_n hx hb dX9_otherBits_77 rfl (lv_at hl 1 rfl) ?_
        exact my_retI hx hb hr hlocks hK hS (wl_kf_X9_otherBits cI cJ cK m0 a_row a_tape a_number a_read a_readBits a_stands a_parted a_bitsWere a_stood a_chosen a_bestChosen a_often a_sorted a_risen a_risenWays m_thrown (nI m_told) (nI m_taped) (nI m_at) (nI m_to) (nI m_many) (nI m_readMany) m_fewest (nI m_size) mn a_stands_4 a_parted_4 mw) hP hD (⟨t, a_stands_4, a_parted_4, rfl, rfl, hR_a_stands_4, hR_a_parted_4, (by rw [ht, show j = 8 from (by omega)])⟩) dX9_otherBits_78
      ·
        have d7 : ((j : Nat) : Int) < (8 : Int) := my_nge c7 (nI_toInt (by omega)) (by decide +kernel)
        refine lv_aload_n hx hb dX9_otherBits_10 rfl (lv_at hl 2 rfl) ?_
        refine lv_iload_n hx hb dX9_otherBits_11 rfl (lv_at hl 0 rfl) ?_
        refine my_goVS (wc := (wl_kf_X9_laysLevel cI cJ cK m0 a_row a_tape a_number a_read a_readBits a_stands a_parted a_bitsWere a_stood a_chosen a_bestChosen a_often a_sorted a_risen a_risenWays m_thrown (nI m_told) (nI m_taped) (nI m_at) (nI m_to) (nI m_many) (nI m_readMany) m_fewest (nI m_size) mn a_stands_4 a_parted_4)) hP hD hS hA [0, 1, 2, 3] rfl [some 0, some 1, some 2, some 3] (by decide +kernel) (my_cV (As := [.int (nI j)]) (rest := []) (ci := 9) (wc := (wl_kf_X9_laysLevel cI cJ cK m0 a_row a_tape a_number a_read a_readBits a_stands a_parted a_bitsWere a_stood a_chosen a_bestChosen a_often a_sorted a_risen a_risenWays m_thrown (nI m_told) (nI m_taped) (nI m_at) (nI m_to) (nI m_many) (nI m_readMany) m_fewest (nI m_size) mn a_stands_4 a_parted_4)) ⟨hx, hb, hml, hown, hts⟩ (cwV 1 hts gX9_otherBits_X9_laysLevel rfl rfl rfl (by decide +kernel) ⟨Nat.le_of_ble_eq_true rfl, Nat.le_of_ble_eq_true rfl⟩) hN hK hP hD [0, 1, 2, 3] rfl (by decide) rfl 0 rfl rfl rfl rfl hl.1 rfl (Nat.le_of_ble_eq_true rfl) dX9_otherBits_12 ⟨Nat.le_of_ble_eq_true rfl, Nat.le_of_ble_eq_true rfl⟩  ((kf_X9_laysLevel l D cI cJ cK m0 a_row a_tape a_number a_read a_readBits a_stands a_parted a_bitsWere a_stood a_chosen a_bestChosen a_often a_sorted a_risen a_risenWays m_thrown m_told m_taped m_at m_to m_many m_readMany m_fewest m_size mn a_stands_4 a_parted_4 j (by first | assumption | omega | decide +kernel) (by first | assumption | omega | decide +kernel) (by first | assumption | omega | decide +kernel) (by first | assumption | omega | decide +kernel) (by first | assumption | omega | decide +kernel) (by first | assumption | omega | decide +kernel) (by first | assumption | omega | decide +kernel) hR_mn hR_a_stands_4 hR_a_parted_4 (by first | assumption | omega | decide +kernel)) _)) (fun u H locs hp hPD hS => ?_)
        obtain ⟨ms_1, mp_2, rfl, hR_ms_1, hR_mp_2, hly⟩ := hp
        obtain ⟨hP, hD⟩ := hPD rfl
        have hP : va_P D vwCl (wl_kf_X9_otherBits cI cJ cK m0 a_row a_tape a_number a_read a_readBits a_stands a_parted a_bitsWere a_stood a_chosen a_bestChosen a_often a_sorted a_risen a_risenWays m_thrown (nI m_told) (nI m_taped) (nI m_at) (nI m_to) (nI m_many) (nI m_readMany) m_fewest (nI m_size) mn ms_1 mp_2 mw) H := hP
        have hD : va_D A (wl_kf_X9_otherBits cI cJ cK m0 a_row a_tape a_number a_read a_readBits a_stands a_parted a_bitsWere a_stood a_chosen a_bestChosen a_often a_sorted a_risen a_risenWays m_thrown (nI m_told) (nI m_taped) (nI m_at) (nI m_to) (nI m_many) (nI m_readMany) m_fewest (nI m_size) mn ms_1 mp_2 mw) := hD
        refine lv_iconst (v := 0) hx hb dX9_otherBits_15 (by decide +kernel) ?_
        refine lv_istore_n (lv' := [(3, .int 0), (2, .int (nI j)), (1, .int (nI t)), (0, .ref m0)]) hx hb dX9_otherBits_16 rfl hl (by decide) rfl (fun ls hl => ?_)
        have loop17 : ∀ (n9 : Nat) (k : Nat) (t2 : Nat), 64 - k < n9 → (k ≤ 64) → (k ≤ m_many) → (t2 = fb_sm (fun j => fb_ct (fun i => lvB mn m_many j i ^^ Bf j i) m_many) j + fb_ct (fun i => lvB mn m_many j i ^^ Bf j i) k) → ∀ (H : Heap) (locs : List Loc) (ls : Array Slot), va_P D vwCl (wl_kf_X9_otherBits cI cJ cK m0 a_row a_tape a_number a_read a_readBits a_stands a_parted a_bitsWere a_stood a_chosen a_bestChosen a_often a_sorted a_risen a_risenWays m_thrown (nI m_told) (nI m_taped) (nI m_at) (nI m_to) (nI m_many) (nI m_readMany) m_fewest (nI m_size) mn ms_1 mp_2 mw) H → va_D A (wl_kf_X9_otherBits cI cJ cK m0 a_row a_tape a_number a_read a_readBits a_stands a_parted a_bitsWere a_stood a_chosen a_bestChosen a_often a_sorted a_risen a_risenWays m_thrown (nI m_told) (nI m_taped) (nI m_at) (nI m_to) (nI m_many) (nI m_readMany) m_fewest (nI m_size) mn ms_1 mp_2 mw) → va_S A s.heap H locs → lv_has ls 4 [(3, .int (nI k)), (2, .int (nI j)), (1, .int (nI t2)), (0, .ref m0)] → W p l e ({ frames := 2, cells := 0, slots := 0, locals := 120 } : Room) s m [.ref m0].toArray below meth c H locs 0 0 (MQ below (va_Qi (fun (r : Int32) (u : va_W) => ∃ (t' : Nat) (ms' : Nat → Int32) (mp' : Nat → Int32), u = (wl_kf_X9_otherBits cI cJ cK m0 a_row a_tape a_number a_read a_readBits a_stands a_parted a_bitsWere a_stood a_chosen a_bestChosen a_often a_sorted a_risen a_risenWays m_thrown (nI m_told) (nI m_taped) (nI m_at) (nI m_to) (nI m_many) (nI m_readMany) m_fewest (nI m_size) mn ms' mp' mw) ∧ r = nI t' ∧ RB 0 63 ms' ∧ RB 0 63 mp' ∧ t' = fb_sm (fun j => fb_ct (fun i => lvB mn m_many j i ^^ Bf j i) m_many) 8) (my_B D (tyIJ cI cJ cK) A) A) [.ref m0].toArray s 0 0 A) (F0 m 17 ls []) := by
          intro n9
          induction n9 with
          | zero =>
            intro k t2 hn9
            exact absurd hn9 (Nat.not_lt_zero _)
          | succ n9 ih17 =>
            intro k t2 hn9 hk_k hkm ht2 H locs ls hP hD hS hl
            refine lv_iload_n hx hb dX9_otherBits_17 rfl (lv_at hl 0 rfl) ?_
            refine lv_aload_n hx hb dX9_otherBits_18 rfl (lv_at hl 3 rfl) ?_
            refine va_get (ci := 9) (v := .int (nI m_many)) (C := RX9) (T := TX9) (N := 24) hx hb hts hi9 hown hK hP 0 rfl rfl 7 (by decide) fl88 (fun _ h9 => h9) rfl dX9_otherBits_19 ?_
            refine lv_icmp_ge (tgt := 71) hx hb dX9_otherBits_22 (by decide) (fun c22 => ?_) (fun c22 => ?_)
            ·
              have d22 : ((k : Nat) : Int) ≥ ((m_many : Nat) : Int) := my_ge c22 (nI_toInt (by omega)) (nI_toInt (by omega))
              refine lv_iinc (v := nI (j + 1)) (lv' := [(2, .int (nI (j + 1))), (3, .int (nI k)), (1, .int (nI t2)), (0, .ref m0)]) hx hb dX9_otherBits_71 hl (k := 1) rfl (my_incN j 1 (by decide +kernel)) (by decide) rfl (fun ls hl => ?_)
              refine lv_goto (tgt := 4) hx hb dX9_otherBits_74 (by decide) ?_
              exact ih4  (j + 1) t2 ms_1 mp_2 (by omega) (by first | assumption | omega | decide +kernel) (by rw [fb_sm_succ, ht2, show k = m_many from (by omega)]) hR_ms_1 hR_mp_2 _ _ ls hP hD hS (lv_sub hl [0, 2, 3] rfl)
            ·
              have d22 : ((k : Nat) : Int) < ((m_many : Nat) : Int) := my_nge c22 (nI_toInt (by omega)) (nI_toInt (by omega))
              refine lv_iload_n hx hb dX9_otherBits_25 rfl (lv_at hl 2 rfl) ?_
              refine lv_aload_n hx hb dX9_otherBits_26 rfl (lv_at hl 3 rfl) ?_
              refine va_get (ci := 9) (v := .ref a_bitsWere) (C := RX9) (T := TX9) (N := 24) hx hb hts hi9 hown hK hP 0 rfl rfl 14 (by decide) fl64 (fun _ h9 => h9) rfl dX9_otherBits_27 ?_
              refine lv_bipush (v := 64) hx hb dX9_otherBits_30 (by decide +kernel) ?_
              refine lv_iload_n hx hb dX9_otherBits_32 rfl (lv_at hl 1 rfl) ?_
              refine lv_imul hx hb dX9_otherBits_33 ?_
              refine my_eqi (y := nI (64 * j)) (my_mulN _ _) ?_
              refine lv_iload_n hx hb dX9_otherBits_34 rfl (lv_at hl 0 rfl) ?_
              refine lv_iadd hx hb dX9_otherBits_35 ?_
              refine my_eqi (y := nI (64 * j + k)) (nI_add _ _) ?_
              have hbl9 := bN_le (Bf j k)
              refine va_iald hx hb hK hP 4 0 rfl rfl (vp_in_nI (by omega) (by omega)) dX9_otherBits_36 ?_
              refine my_eqi (y := nI (bN (Bf j k))) ((congrArg _ (nI_clamp (by omega))).trans (hBf j (by omega) k (by omega))) ?_
              refine lv_aload_n hx hb dX9_otherBits_37 rfl (lv_at hl 3 rfl) ?_
              refine va_get (ci := 9) (v := .ref a_number) (C := RX9) (T := TX9) (N := 24) hx hb hts hi9 hown hK hP 0 rfl rfl 8 (by decide) fl49 (fun _ h9 => h9) rfl dX9_otherBits_38 ?_
              refine lv_aload_n hx hb dX9_otherBits_41 rfl (lv_at hl 3 rfl) ?_
              refine va_get (ci := 9) (v := .ref a_stands) (C := RX9) (T := TX9) (N := 24) hx hb hts hi9 hown hK hP 0 rfl rfl 12 (by decide) fl58 (fun _ h9 => h9) rfl dX9_otherBits_42 ?_
              refine lv_iload_n hx hb dX9_otherBits_45 rfl (lv_at hl 0 rfl) ?_
              have hol := ordF_lt (f := mn) (n := m_many) j (show k < m_many by omega)
              refine va_iald hx hb hK hP 2 0 rfl rfl (vp_in_nI (by omega) (by omega)) dX9_otherBits_46 ?_
              refine my_eqi (y := nI (ordF mn m_many j k)) ((congrArg _ (nI_clamp (by omega))).trans (hly k (by omega))) ?_
              refine va_iald hx hb hK hP 1 0 rfl rfl (vp_in_nI (by omega) (by omega)) dX9_otherBits_47 ?_
              refine my_eqi (y := mn (ordF mn m_many j k)) (congrArg mn (nI_clamp (by omega))) ?_
              have hb_3 := hR_mn (ordF mn m_many j k)
              obtain ⟨w_4, ew_4, hw_4⟩ : ∃ w : Nat, (mn (ordF mn m_many j k)) = nI w ∧ (w : Int) = (mn (ordF mn m_many j k) : Int32).toInt := my_natE (by omega)
              refine my_eqi (y := nI w_4) ew_4 ?_
              refine lv_iload_n hx hb dX9_otherBits_48 rfl (lv_at hl 1 rfl) ?_
              refine my_gpI (my_pS (As := [.int (nI w_4), .int (nI j)]) (rest := [.int (nI (bN (Bf j k))), .int (nI t2)]) ⟨hx, hb, hml, hown, hts⟩ (va_cwS 2 hts gX9_otherBits_X9_bitOf rfl rfl rfl (by decide +kernel) ⟨Nat.le_of_ble_eq_true rfl, Nat.le_of_ble_eq_true rfl⟩) hN hK hP [] rfl rfl hl.1 rfl (Nat.le_of_ble_eq_true rfl) dX9_otherBits_49 ⟨Nat.le_of_ble_eq_true rfl, Nat.le_of_ble_eq_true rfl⟩  (kf_X9_bitOf l D cI cJ cK w_4 j (by first | assumption | omega | decide +kernel) (by first | assumption | omega | decide +kernel))) (fun r hp => ?_)
              obtain ⟨k_5, rfl, hbo, hq_6⟩ := hp
              refine lv_icmp_eq (tgt := 59) hx hb dX9_otherBits_52 (by decide) (fun c52 => ?_) (fun c52 => ?_)
              ·
                have d52 : ((bN (Bf j k) : Nat) : Int) = ((k_5 : Nat) : Int) := my_eq c52 (nI_toInt (by omega)) (nI_toInt (by omega))
                refine lv_iconst (v := 0) hx hb dX9_otherBits_59 (by decide +kernel) ?_
                refine my_gpI (my_pS (As := [.int 0]) (rest := [.int (nI t2)]) ⟨hx, hb, hml, hown, hts⟩ (va_cwS 1 hts gX9_otherBits_X9_flag rfl rfl rfl (by decide +kernel) ⟨Nat.le_of_ble_eq_true rfl, Nat.le_of_ble_eq_true rfl⟩) hN hK hP [] rfl rfl hl.1 rfl (Nat.le_of_ble_eq_true rfl) dX9_otherBits_60 ⟨Nat.le_of_ble_eq_true rfl, Nat.le_of_ble_eq_true rfl⟩  (k0_X9_flag l D cI cJ cK )) (fun r hp => ?_)
                obtain rfl := hp
                refine lv_iadd hx hb dX9_otherBits_63 ?_
                refine my_eqi (y := nI t2) (my_addN t2 0) ?_
                refine lv_istore_n (lv' := [(1, .int (nI t2)), (3, .int (nI k)), (2, .int (nI j)), (0, .ref m0)]) hx hb dX9_otherBits_64 rfl hl (by decide) rfl (fun ls hl => ?_)
                refine lv_iinc (v := nI (k + 1)) (lv' := [(3, .int (nI (k + 1))), (1, .int (nI t2)), (2, .int (nI j)), (0, .ref m0)]) hx hb dX9_otherBits_65 hl (k := 1) rfl (my_incN k 1 (by decide +kernel)) (by decide) rfl (fun ls hl => ?_)
                refine lv_goto (tgt := 17) hx hb dX9_otherBits_68 (by decide) ?_
                exact ih17  (k + 1) t2 (by omega) (by first | assumption | omega | decide +kernel) (by first | assumption | omega | decide +kernel) (by first | exact ob_1 ht2 (ob_y (by rw [lvb_at (by assumption) (by omega)]; omega)) | exact ob_0 ht2 (ob_n (by rw [lvb_at (by assumption) (by omega)]; omega))) _ _ ls hP hD hS (lv_sub hl [0, 2, 1, 3] rfl)
              ·
                have d52 : ((bN (Bf j k) : Nat) : Int) ≠ ((k_5 : Nat) : Int) := my_ne c52 (nI_toInt (by omega)) (nI_toInt (by omega))
                refine lv_iconst (v := 1) hx hb dX9_otherBits_55 (by decide +kernel) ?_
                refine lv_goto (tgt := 60) hx hb dX9_otherBits_56 (by decide) ?_
                refine my_gpI (my_pS (As := [.int 1]) (rest := [.int (nI t2)]) ⟨hx, hb, hml, hown, hts⟩ (va_cwS 1 hts gX9_otherBits_X9_flag rfl rfl rfl (by decide +kernel) ⟨Nat.le_of_ble_eq_true rfl, Nat.le_of_ble_eq_true rfl⟩) hN hK hP [] rfl rfl hl.1 rfl (Nat.le_of_ble_eq_true rfl) dX9_otherBits_60 ⟨Nat.le_of_ble_eq_true rfl, Nat.le_of_ble_eq_true rfl⟩  (k1_X9_flag l D cI cJ cK )) (fun r hp => ?_)
                obtain rfl := hp
                refine lv_iadd hx hb dX9_otherBits_63 ?_
                refine my_eqi (y := nI (t2 + 1)) (my_addN t2 1) ?_
                refine lv_istore_n (lv' := [(1, .int (nI (t2 + 1))), (3, .int (nI k)), (2, .int (nI j)), (0, .ref m0)]) hx hb dX9_otherBits_64 rfl hl (by decide) rfl (fun ls hl => ?_)
                refine lv_iinc (v := nI (k + 1)) (lv' := [(3, .int (nI (k + 1))), (1, .int (nI (t2 + 1))), (2, .int (nI j)), (0, .ref m0)]) hx hb dX9_otherBits_65 hl (k := 1) rfl (my_incN k 1 (by decide +kernel)) (by decide) rfl (fun ls hl => ?_)
                refine lv_goto (tgt := 17) hx hb dX9_otherBits_68 (by decide) ?_
                exact ih17  (k + 1) (t2 + 1) (by omega) (by first | assumption | omega | decide +kernel) (by first | assumption | omega | decide +kernel) (by first | exact ob_1 ht2 (ob_y (by rw [lvb_at (by assumption) (by omega)]; omega)) | exact ob_0 ht2 (ob_n (by rw [lvb_at (by assumption) (by omega)]; omega))) _ _ ls hP hD hS (lv_sub hl [0, 2, 1, 3] rfl)
        exact loop17 ((64 - 0) + 1) 0 t (Nat.lt_succ_self _) (by first | assumption | omega | decide +kernel) (by first | assumption | omega | decide +kernel) (by show _ = _ + 0; omega) _ _ ls hP hD hS (lv_sub hl [0, 1, 2, 3] rfl)
  exact loop4 ((8 - 0) + 1) 0 0 ms mp (Nat.lt_succ_self _) (by first | assumption | omega | decide +kernel) (rfl) hR_ms hR_mp _ _ ls hP hD hS (lv_sub hl [0, 1, 2] rfl)
abbrev wl_k_X9_laysLevel (cI cJ cK : ClassId) (m0 : Nat) (a_row : Nat) (a_tape : Nat) (a_number : Nat) (a_read : Nat) (a_readBits : Nat) (a_stands : Nat) (a_parted : Nat) (a_bitsWere : Nat) (a_stood : Nat) (a_chosen : Nat) (a_bestChosen : Nat) (a_often : Nat) (a_sorted : Nat) (a_risen : Nat) (a_risenWays : Nat) (v0_ : Int32) (v1_ : Int32) (v2_ : Int32) (v3_ : Int32) (v4_ : Int32) (v5_ : Int32) (v6_ : Int32) (v7_ : Int32) (v8_ : Int32) (v9_ : Nat → Int32) (v10_ : Nat → Int32) (v11_ : Nat → Int32) : va_W := [(m0, .inr (9, [.int v0_, .int v1_, .ref a_row, .ref a_tape, .int v2_, .int v3_, .int v4_, .int v5_, .ref a_number, .ref a_read, .int v6_, .ref a_readBits, .ref a_stands, .ref a_parted, .ref a_bitsWere, .ref a_stood, .ref a_chosen, .ref a_bestChosen, .int v7_, .ref a_often, .ref a_sorted, .int v8_, .ref a_risen, .ref a_risenWays])), (a_number, .inl (cI, 64, .inl v9_)), (a_stands, .inl (cI, 64, .inl v10_)), (a_parted, .inl (cI, 64, .inl v11_))]
set_option maxHeartbeats 4000000 in
set_option maxRecDepth 100000 in
theorem k_X9_laysLevel (l : Launch) (D : va_G) (cI cJ cK : ClassId) (m0 : Nat) (a_row : Nat) (a_tape : Nat) (a_number : Nat) (a_read : Nat) (a_readBits : Nat) (a_stands : Nat) (a_parted : Nat) (a_bitsWere : Nat) (a_stood : Nat) (a_chosen : Nat) (a_bestChosen : Nat) (a_often : Nat) (a_sorted : Nat) (a_risen : Nat) (a_risenWays : Nat) (m_thrown : Int32) (m_told : Nat) (m_taped : Nat) (m_at : Nat) (m_to : Nat) (m_many : Nat) (m_readMany : Nat) (m_fewest : Int32) (m_size : Nat) (mn : Nat → Int32) (ms : Nat → Int32) (mp : Nat → Int32) (j9 : Int32) (A_j9 : Int) (hA_j9 : j9.toInt = A_j9) (hz_m_told : m_told ≤ 64) (hz_m_taped : m_taped ≤ 100) (hz_m_at : m_at ≤ 100) (hz_m_to : m_to ≤ 100) (hz_m_many : m_many ≤ 64) (hz_m_readMany : m_readMany ≤ 64) (hz_m_size : m_size ≤ 64) (hR_mn : RB 0 255 mn) (hR_ms : RB 0 63 ms) (hR_mp : RB 0 63 mp) (hj : A_j9 ≤ 8) : ctV l yX9_laysLevel wsX9_laysLevel ({ frames := 1, cells := 0, slots := 0, locals := 60 } : Room) D (tyIJ cI cJ cK) [.ref m0, .int j9] (wl_k_X9_laysLevel cI cJ cK m0 a_row a_tape a_number a_read a_readBits a_stands a_parted a_bitsWere a_stood a_chosen a_bestChosen a_often a_sorted a_risen a_risenWays m_thrown (nI m_told) (nI m_taped) (nI m_at) (nI m_to) (nI m_many) (nI m_readMany) m_fewest (nI m_size) mn ms mp) (fun (u : va_W) => ∃ (ms' : Nat → Int32) (mp' : Nat → Int32), u = (wl_k_X9_laysLevel cI cJ cK m0 a_row a_tape a_number a_read a_readBits a_stands a_parted a_bitsWere a_stood a_chosen a_bestChosen a_often a_sorted a_risen a_risenWays m_thrown (nI m_told) (nI m_taped) (nI m_at) (nI m_to) (nI m_many) (nI m_readMany) m_fewest (nI m_size) mn ms' mp') ∧ RB 0 63 ms' ∧ RB 0 63 mp' ∧ (∀ p, p < m_many → ∃ q, q < m_many ∧ ms' q = nI p)) := by
  refine ctV.of (cc := cX9_laysLevel) (maxL := 3) (ret := none) (by decide) rfl (Nat.le_of_ble_eq_true rfl) ?_
  intro p e s m below meth c ls A hx hb hr hts hown hml hlocks hname hA hK hN hP hD hS hl
  have hl : lv_has ls 3 [(0, .ref m0), (1, .int j9)] := hl
  have hown : s.vm.findClass RX9 = some m.cls := hown
  refine lv_aload_n hx hb dX9_laysLevel_0 rfl (lv_at hl 0 rfl) ?_
  refine my_goVS (wc := (wl_k_X9_begins cI cJ cK m0 a_row a_tape a_number a_read a_readBits a_stands a_parted a_bitsWere a_stood a_chosen a_bestChosen a_often a_sorted a_risen a_risenWays m_thrown (nI m_told) (nI m_taped) (nI m_at) (nI m_to) (nI m_many) (nI m_readMany) m_fewest (nI m_size) ms)) hP hD hS hA [0, 2] rfl [some 0, none, some 1] (by decide +kernel) (my_cV (As := []) (rest := []) (ci := 9) (wc := (wl_k_X9_begins cI cJ cK m0 a_row a_tape a_number a_read a_readBits a_stands a_parted a_bitsWere a_stood a_chosen a_bestChosen a_often a_sorted a_risen a_risenWays m_thrown (nI m_told) (nI m_taped) (nI m_at) (nI m_to) (nI m_many) (nI m_readMany) m_fewest (nI m_size) ms)) ⟨hx, hb, hml, hown, hts⟩ (cwV 0 hts gX9_laysLevel_X9_begins rfl rfl rfl (by decide +kernel) ⟨Nat.le_of_ble_eq_true rfl, Nat.le_of_ble_eq_true rfl⟩) hN hK hP hD [0, 2] rfl (by decide) rfl 0 rfl rfl rfl rfl hl.1 rfl (Nat.le_of_ble_eq_true rfl) dX9_laysLevel_1 ⟨Nat.le_of_ble_eq_true rfl, Nat.le_of_ble_eq_true rfl⟩  ((k_X9_begins l D cI cJ cK m0 a_row a_tape a_number a_read a_readBits a_stands a_parted a_bitsWere a_stood a_chosen a_bestChosen a_often a_sorted a_risen a_risenWays m_thrown m_told m_taped m_at m_to m_many m_readMany m_fewest m_size ms (by first | assumption | omega | decide +kernel) (by first | assumption | omega | decide +kernel) (by first | assumption | omega | decide +kernel) (by first | assumption | omega | decide +kernel) (by first | assumption | omega | decide +kernel) (by first | assumption | omega | decide +kernel) (by first | assumption | omega | decide +kernel) hR_ms) _)) (fun u H locs hp hPD hS => ?_)
  obtain ⟨ms_1, rfl, hR_ms_1, hst⟩ := hp
  obtain ⟨hP, hD⟩ := hPD rfl
  have hP : va_P D vwCl (wl_k_X9_laysLevel cI cJ cK m0 a_row a_tape a_number a_read a_readBits a_stands a_parted a_bitsWere a_stood a_chosen a_bestChosen a_often a_sorted a_risen a_risenWays m_thrown (nI m_told) (nI m_taped) (nI m_at) (nI m_to) (nI m_many) (nI m_readMany) m_fewest (nI m_size) mn ms_1 mp) H := hP
  have hD : va_D A (wl_k_X9_laysLevel cI cJ cK m0 a_row a_tape a_number a_read a_readBits a_stands a_parted a_bitsWere a_stood a_chosen a_bestChosen a_often a_sorted a_risen a_risenWays m_thrown (nI m_told) (nI m_taped) (nI m_at) (nI m_to) (nI m_many) (nI m_readMany) m_fewest (nI m_size) mn ms_1 mp) := hD
  refine lv_iconst (v := 0) hx hb dX9_laysLevel_4 (by decide +kernel) ?_
  refine lv_istore_n (lv' := [(2, .int 0), (0, .ref m0), (1, .int j9)]) hx hb dX9_laysLevel_5 rfl hl (by decide) rfl (fun ls hl => ?_)
  have loop6 : ∀ (n9 : Nat) (k : Nat) (a_stands_6 : Nat → Int32) (a_parted_6 : Nat → Int32), 8 - k < n9 → (k ≤ 8) → (∀ p, p < m_many → ∃ q, q < m_many ∧ a_stands_6 q = nI p) → (RB 0 63 a_stands_6) → (RB 0 63 a_parted_6) → ∀ (H : Heap) (locs : List Loc) (ls : Array Slot), va_P D vwCl (wl_k_X9_laysLevel cI cJ cK m0 a_row a_tape a_number a_read a_readBits a_stands a_parted a_bitsWere a_stood a_chosen a_bestChosen a_often a_sorted a_risen a_risenWays m_thrown (nI m_told) (nI m_taped) (nI m_at) (nI m_to) (nI m_many) (nI m_readMany) m_fewest (nI m_size) mn a_stands_6 a_parted_6) H → va_D A (wl_k_X9_laysLevel cI cJ cK m0 a_row a_tape a_number a_read a_readBits a_stands a_parted a_bitsWere a_stood a_chosen a_bestChosen a_often a_sorted a_risen a_risenWays m_thrown (nI m_told) (nI m_taped) (nI m_at) (nI m_to) (nI m_many) (nI m_readMany) m_fewest (nI m_size) mn a_stands_6 a_parted_6) → va_S A s.heap H locs → lv_has ls 3 [(2, .int (nI k)), (0, .ref m0), (1, .int j9)] → W p l e ({ frames := 1, cells := 0, slots := 0, locals := 60 } : Room) s m [.ref m0, .int j9].toArray below meth c H locs 0 0 (MQ below (va_Qv (fun (u : va_W) => ∃ (ms' : Nat → Int32) (mp' : Nat → Int32), u = (wl_k_X9_laysLevel cI cJ cK m0 a_row a_tape a_number a_read a_readBits a_stands a_parted a_bitsWere a_stood a_chosen a_bestChosen a_often a_sorted a_risen a_risenWays m_thrown (nI m_told) (nI m_taped) (nI m_at) (nI m_to) (nI m_many) (nI m_readMany) m_fewest (nI m_size) mn ms' mp') ∧ RB 0 63 ms' ∧ RB 0 63 mp' ∧ (∀ p, p < m_many → ∃ q, q < m_many ∧ ms' q = nI p)) (my_B D (tyIJ cI cJ cK) A) A) [.ref m0, .int j9].toArray s 0 0 A) (F0 m 6 ls []) := by
    intro n9
    induction n9 with
    | zero =>
      intro k a_stands_6 a_parted_6 hn9
      exact absurd hn9 (Nat.not_lt_zero _)
    | succ n9 ih6 =>
      intro k a_stands_6 a_parted_6 hn9 hk_k hlv hR_a_stands_6 hR_a_parted_6 H locs ls hP hD hS hl
      refine lv_iload_n hx hb dX9_laysLevel_6 rfl (lv_at hl 0 rfl) ?_
      refine lv_iload_n hx hb dX9_laysLevel_7 rfl (lv_at hl 2 rfl) ?_
      refine lv_icmp_ge (tgt := 25) hx hb dX9_laysLevel_8 (by decide) (fun c8 => ?_) (fun c8 => ?_)
      ·
        have d8 : ((k : Nat) : Int) ≥ j9.toInt := my_ge c8 (nI_toInt (by omega)) rfl
        exact my_retV hx hb hr hlocks hK hS (wl_k_X9_laysLevel cI cJ cK m0 a_row a_tape a_number a_read a_readBits a_stands a_parted a_bitsWere a_stood a_chosen a_bestChosen a_often a_sorted a_risen a_risenWays m_thrown (nI m_told) (nI m_taped) (nI m_at) (nI m_to) (nI m_many) (nI m_readMany) m_fewest (nI m_size) mn a_stands_6 a_parted_6) hP hD (⟨a_stands_6, a_parted_6, rfl, hR_a_stands_6, hR_a_parted_6, hlv⟩) dX9_laysLevel_25
      ·
        have d8 : ((k : Nat) : Int) < j9.toInt := my_nge c8 (nI_toInt (by omega)) rfl
        refine lv_aload_n hx hb dX9_laysLevel_11 rfl (lv_at hl 1 rfl) ?_
        refine lv_bipush (v := 7) hx hb dX9_laysLevel_12 (by decide +kernel) ?_
        refine lv_iload_n hx hb dX9_laysLevel_14 rfl (lv_at hl 0 rfl) ?_
        refine lv_isub hx hb dX9_laysLevel_15 ?_
        refine lv_topi (fun z_2 ez_2 => ?_)
        try have tz_2 : z_2.toInt = (7 : Int) - ((k : Nat) : Int) := by rw [ez_2]; exact my_subI (by decide +kernel) (nI_toInt (by omega)) (by omega) (by omega)
        refine my_goVS (wc := (wl_k_X9_parts cI cJ cK m0 a_row a_tape a_number a_read a_readBits a_stands a_parted a_bitsWere a_stood a_chosen a_bestChosen a_often a_sorted a_risen a_risenWays m_thrown (nI m_told) (nI m_taped) (nI m_at) (nI m_to) (nI m_many) (nI m_readMany) m_fewest (nI m_size) mn a_stands_6 a_parted_6)) hP hD hS hA [0, 1, 2, 3] rfl [some 0, some 1, some 2, some 3] (by decide +kernel) (my_cV (As := [.int z_2]) (rest := []) (ci := 9) (wc := (wl_k_X9_parts cI cJ cK m0 a_row a_tape a_number a_read a_readBits a_stands a_parted a_bitsWere a_stood a_chosen a_bestChosen a_often a_sorted a_risen a_risenWays m_thrown (nI m_told) (nI m_taped) (nI m_at) (nI m_to) (nI m_many) (nI m_readMany) m_fewest (nI m_size) mn a_stands_6 a_parted_6)) ⟨hx, hb, hml, hown, hts⟩ (cwV 1 hts gX9_laysLevel_X9_parts rfl rfl rfl (by decide +kernel) ⟨Nat.le_of_ble_eq_true rfl, Nat.le_of_ble_eq_true rfl⟩) hN hK hP hD [0, 1, 2, 3] rfl (by decide) rfl 0 rfl rfl rfl rfl hl.1 rfl (Nat.le_of_ble_eq_true rfl) dX9_laysLevel_16 ⟨Nat.le_of_ble_eq_true rfl, Nat.le_of_ble_eq_true rfl⟩  ((k_X9_parts l D cI cJ cK m0 a_row a_tape a_number a_read a_readBits a_stands a_parted a_bitsWere a_stood a_chosen a_bestChosen a_often a_sorted a_risen a_risenWays m_thrown m_told m_taped m_at m_to m_many m_readMany m_fewest m_size mn a_stands_6 a_parted_6 z_2 (by first | assumption | omega | decide +kernel) (by first | assumption | omega | decide +kernel) (by first | assumption | omega | decide +kernel) (by first | assumption | omega | decide +kernel) (by first | assumption | omega | decide +kernel) (by first | assumption | omega | decide +kernel) (by first | assumption | omega | decide +kernel) hR_mn hR_a_stands_6 hR_a_parted_6) _)) (fun u H locs hp hPD hS => ?_)
        obtain ⟨ms_3, mp_4, rfl, hR_ms_3, hR_mp_4, hsur⟩ := hp
        obtain ⟨hP, hD⟩ := hPD rfl
        have hP : va_P D vwCl (wl_k_X9_laysLevel cI cJ cK m0 a_row a_tape a_number a_read a_readBits a_stands a_parted a_bitsWere a_stood a_chosen a_bestChosen a_often a_sorted a_risen a_risenWays m_thrown (nI m_told) (nI m_taped) (nI m_at) (nI m_to) (nI m_many) (nI m_readMany) m_fewest (nI m_size) mn ms_3 mp_4) H := hP
        have hD : va_D A (wl_k_X9_laysLevel cI cJ cK m0 a_row a_tape a_number a_read a_readBits a_stands a_parted a_bitsWere a_stood a_chosen a_bestChosen a_often a_sorted a_risen a_risenWays m_thrown (nI m_told) (nI m_taped) (nI m_at) (nI m_to) (nI m_many) (nI m_readMany) m_fewest (nI m_size) mn ms_3 mp_4) := hD
        refine lv_iinc (v := nI (k + 1)) (lv' := [(2, .int (nI (k + 1))), (0, .ref m0), (1, .int j9)]) hx hb dX9_laysLevel_19 hl (k := 0) rfl (my_incN k 1 (by decide +kernel)) (by decide) rfl (fun ls hl => ?_)
        refine lv_goto (tgt := 6) hx hb dX9_laysLevel_22 (by decide) ?_
        exact ih6  (k + 1) ms_3 mp_4 (by omega) (by first | assumption | omega | decide +kernel) (sj_step hlv hsur) hR_ms_3 hR_mp_4 _ _ ls hP hD hS (lv_sub hl [0, 1, 2] rfl)
  exact loop6 ((8 - 0) + 1) 0 ms_1 mp (Nat.lt_succ_self _) (by first | assumption | omega | decide +kernel) (sj_id hst) hR_ms_1 hR_mp _ _ ls hP hD hS (lv_sub hl [0, 1, 2] rfl)
set_option maxHeartbeats 4000000 in
set_option maxRecDepth 100000 in
theorem k_X9_runsOf (l : Launch) (D : va_G) (cI cJ cK : ClassId) (m0 : Nat) (a_row : Nat) (a_tape : Nat) (a_number : Nat) (a_read : Nat) (a_readBits : Nat) (a_stands : Nat) (a_parted : Nat) (a_bitsWere : Nat) (a_stood : Nat) (a_chosen : Nat) (a_bestChosen : Nat) (a_often : Nat) (a_sorted : Nat) (a_risen : Nat) (a_risenWays : Nat) (m_thrown : Int32) (m_told : Nat) (m_taped : Nat) (m_at : Nat) (m_to : Nat) (m_many : Nat) (m_readMany : Nat) (m_fewest : Int32) (m_size : Nat) (mn : Nat → Int32) (ms : Nat → Int32) (b9 : Int32) (hz_m_told : m_told ≤ 64) (hz_m_taped : m_taped ≤ 100) (hz_m_at : m_at ≤ 100) (hz_m_to : m_to ≤ 100) (hz_m_many : m_many ≤ 64) (hz_m_readMany : m_readMany ≤ 64) (hz_m_size : m_size ≤ 64) (hR_mn : RB 0 255 mn) (hR_ms : RB 0 63 ms) : cpI l yX9_runsOf wsX9_runsOf ({ frames := 1, cells := 0, slots := 0, locals := 60 } : Room) D (tyIJ cI cJ cK) [.ref m0, .int b9] [(m0, .inr (9, [.int m_thrown, .int (nI m_told), .ref a_row, .ref a_tape, .int (nI m_taped), .int (nI m_at), .int (nI m_to), .int (nI m_many), .ref a_number, .ref a_read, .int (nI m_readMany), .ref a_readBits, .ref a_stands, .ref a_parted, .ref a_bitsWere, .ref a_stood, .ref a_chosen, .ref a_bestChosen, .int m_fewest, .ref a_often, .ref a_sorted, .int (nI m_size), .ref a_risen, .ref a_risenWays])), (a_number, .inl (cI, 64, .inl mn)), (a_stands, .inl (cI, 64, .inl ms))] (fun (r : Int32) => True) := by
  refine cpI.of (cc := cX9_runsOf) (maxL := 4) (ret := (some .int)) (by decide) rfl (Nat.le_of_ble_eq_true rfl) ?_
  intro p e s m below meth c ls hx hb hr hts hown hml hlocks hname hK hN hP hl
  have hl : lv_has ls 4 [(0, .ref m0), (1, .int b9)] := hl
  have hown : s.vm.findClass RX9 = some m.cls := hown
  have hi9 : ∀ w ∈ u_ws RX9 TX9 24, w ∈ wsX9_runsOf := by decide +kernel
  have fl49 := hts (.fieldLink RX9 49 "PlaneColumnModel" "number" "[I") (by decide +kernel)
  have fl58 := hts (.fieldLink RX9 58 "PlaneColumnModel" "stands" "[I") (by decide +kernel)
  have fl88 := hts (.fieldLink RX9 88 "PlaneColumnModel" "many" "I") (by decide +kernel)
  refine lv_iconst (v := 0) hx hb dX9_runsOf_0 (by decide +kernel) ?_
  refine lv_istore_n (lv' := [(2, .int 0), (0, .ref m0), (1, .int b9)]) hx hb dX9_runsOf_1 rfl hl (by decide) rfl (fun ls hl => ?_)
  refine lv_iconst (v := 0) hx hb dX9_runsOf_2 (by decide +kernel) ?_
  refine lv_istore_n (lv' := [(3, .int 0), (2, .int 0), (0, .ref m0), (1, .int b9)]) hx hb dX9_runsOf_3 rfl hl (by decide) rfl (fun ls hl => ?_)
  have loop4 : ∀ (n9 : Nat) (k : Nat) (y2_4 : Int32), 64 - k < n9 → (k ≤ 64) → ∀ (ls : Array Slot), lv_has ls 4 [(3, .int (nI k)), (2, .int y2_4), (0, .ref m0), (1, .int b9)] → W p l e ({ frames := 1, cells := 0, slots := 0, locals := 60 } : Room) s m [.ref m0, .int b9].toArray below meth c s.heap [] 0 0 (MQ below (vp_Si (fun (r : Int32) => True)) [.ref m0, .int b9].toArray s 0 0 (fun _ => False)) (F0 m 4 ls []) := by
    intro n9
    induction n9 with
    | zero =>
      intro k y2_4 hn9
      exact absurd hn9 (Nat.not_lt_zero _)
    | succ n9 ih4 =>
      intro k y2_4 hn9 hk_k ls hl
      refine lv_iload_n hx hb dX9_runsOf_4 rfl (lv_at hl 0 rfl) ?_
      refine lv_aload_n hx hb dX9_runsOf_5 rfl (lv_at hl 2 rfl) ?_
      refine va_get (ci := 9) (v := .int (nI m_many)) (C := RX9) (T := TX9) (N := 24) hx hb hts hi9 hown hK hP 0 rfl rfl 7 (by decide) fl88 (fun _ h9 => h9) rfl dX9_runsOf_6 ?_
      refine lv_icmp_ge (tgt := 68) hx hb dX9_runsOf_9 (by decide) (fun c9 => ?_) (fun c9 => ?_)
      ·
        have d9 : ((k : Nat) : Int) ≥ ((m_many : Nat) : Int) := my_ge c9 (nI_toInt (by omega)) (nI_toInt (by omega))
        refine lv_iload_n hx hb dX9_runsOf_68 rfl (lv_at hl 1 rfl) ?_
        exact my_rpI hx hb hr hlocks (trivial) dX9_runsOf_69
      ·
        have d9 : ((k : Nat) : Int) < ((m_many : Nat) : Int) := my_nge c9 (nI_toInt (by omega)) (nI_toInt (by omega))
        refine lv_iload_n hx hb dX9_runsOf_12 rfl (lv_at hl 1 rfl) ?_
        refine lv_iload_n hx hb dX9_runsOf_13 rfl (lv_at hl 0 rfl) ?_
        refine lv_if_eq (tgt := 52) hx hb dX9_runsOf_14 (by decide) (fun c14 => ?_) (fun c14 => ?_)
        ·
          have d14 : ((k : Nat) : Int) = (0 : Int) := my_eq c14 (nI_toInt (by omega)) (by decide +kernel)
          refine lv_iconst (v := 1) hx hb dX9_runsOf_52 (by decide +kernel) ?_
          refine lv_goto (tgt := 57) hx hb dX9_runsOf_53 (by decide) ?_
          refine my_gpI (my_pS (As := [.int 1]) (rest := [.int y2_4]) ⟨hx, hb, hml, hown, hts⟩ (va_cwS 1 hts gX9_runsOf_X9_flag rfl rfl rfl (by decide +kernel) ⟨Nat.le_of_ble_eq_true rfl, Nat.le_of_ble_eq_true rfl⟩) hN hK hP [] rfl rfl hl.1 rfl (Nat.le_of_ble_eq_true rfl) dX9_runsOf_57 ⟨Nat.le_of_ble_eq_true rfl, Nat.le_of_ble_eq_true rfl⟩  (k1_X9_flag l D cI cJ cK )) (fun r hp => ?_)
          obtain rfl := hp
          refine lv_iadd hx hb dX9_runsOf_60 ?_
          refine lv_topi (fun z_1 ez_1 => ?_)
          try have tz_1 : z_1.toInt = y2_4.toInt + (1 : Int) := by rw [ez_1]; exact my_addI rfl (by decide +kernel) (by omega) (by omega)
          refine lv_istore_n (lv' := [(2, .int z_1), (3, .int (nI k)), (0, .ref m0), (1, .int b9)]) hx hb dX9_runsOf_61 rfl hl (by decide) rfl (fun ls hl => ?_)
          refine lv_iinc (v := nI (k + 1)) (lv' := [(3, .int (nI (k + 1))), (2, .int z_1), (0, .ref m0), (1, .int b9)]) hx hb dX9_runsOf_62 hl (k := 1) rfl (my_incN k 1 (by decide +kernel)) (by decide) rfl (fun ls hl => ?_)
          refine lv_goto (tgt := 4) hx hb dX9_runsOf_65 (by decide) ?_
          exact ih4  (k + 1) z_1 (by omega) (by first | assumption | omega | decide +kernel) ls (lv_sub hl [0, 1, 2, 3] rfl)
        ·
          have d14 : ((k : Nat) : Int) ≠ (0 : Int) := my_ne c14 (nI_toInt (by omega)) (by decide +kernel)
          refine lv_aload_n hx hb dX9_runsOf_17 rfl (lv_at hl 2 rfl) ?_
          refine va_get (ci := 9) (v := .ref a_number) (C := RX9) (T := TX9) (N := 24) hx hb hts hi9 hown hK hP 0 rfl rfl 8 (by decide) fl49 (fun _ h9 => h9) rfl dX9_runsOf_18 ?_
          refine lv_aload_n hx hb dX9_runsOf_21 rfl (lv_at hl 2 rfl) ?_
          refine va_get (ci := 9) (v := .ref a_stands) (C := RX9) (T := TX9) (N := 24) hx hb hts hi9 hown hK hP 0 rfl rfl 12 (by decide) fl58 (fun _ h9 => h9) rfl dX9_runsOf_22 ?_
          refine lv_iload_n hx hb dX9_runsOf_25 rfl (lv_at hl 0 rfl) ?_
          refine va_iald hx hb hK hP 2 0 rfl rfl (vp_in_nI (by omega) (by omega)) dX9_runsOf_26 ?_
          refine my_eqi (y := ms k) (congrArg ms (nI_clamp (by omega))) ?_
          have hb_2 := hR_ms k
          refine va_iald hx hb hK hP 1 0 rfl rfl (vp_in_iff.mpr ⟨by omega, by omega⟩) dX9_runsOf_27 ?_
          refine lv_topi (fun z_4 ez_4 => ?_)
          have hb_3 := hR_mn (ms k : Int32).toNatClampNeg
          rw [← ez_4] at hb_3
          refine lv_iload_n hx hb dX9_runsOf_28 rfl (lv_at hl 3 rfl) ?_
          refine lv_ishr hx hb dX9_runsOf_29 ?_
          refine lv_topi (fun z_5 ez_5 => ?_)
          refine lv_iconst (v := 1) hx hb dX9_runsOf_30 (by decide +kernel) ?_
          refine lv_iand hx hb dX9_runsOf_31 ?_
          refine lv_topi (fun z_6 ez_6 => ?_)
          have hbz_6 : 0 ≤ z_6.toInt ∧ z_6.toInt ≤ 1 := by rw [ez_6]; exact my_andR (by decide +kernel) (by decide +kernel)
          refine lv_aload_n hx hb dX9_runsOf_32 rfl (lv_at hl 2 rfl) ?_
          refine va_get (ci := 9) (v := .ref a_number) (C := RX9) (T := TX9) (N := 24) hx hb hts hi9 hown hK hP 0 rfl rfl 8 (by decide) fl49 (fun _ h9 => h9) rfl dX9_runsOf_33 ?_
          refine lv_aload_n hx hb dX9_runsOf_36 rfl (lv_at hl 2 rfl) ?_
          refine va_get (ci := 9) (v := .ref a_stands) (C := RX9) (T := TX9) (N := 24) hx hb hts hi9 hown hK hP 0 rfl rfl 12 (by decide) fl58 (fun _ h9 => h9) rfl dX9_runsOf_37 ?_
          refine lv_iload_n hx hb dX9_runsOf_40 rfl (lv_at hl 0 rfl) ?_
          refine lv_iconst (v := 1) hx hb dX9_runsOf_41 (by decide +kernel) ?_
          refine lv_isub hx hb dX9_runsOf_42 ?_
          refine my_eqi (y := nI (k - 1)) (my_subN (a := k) (b := 1) (by omega)) ?_
          refine va_iald hx hb hK hP 2 0 rfl rfl (vp_in_nI (by omega) (by omega)) dX9_runsOf_43 ?_
          refine my_eqi (y := ms (k - 1)) (congrArg ms (nI_clamp (by omega))) ?_
          have hb_7 := hR_ms (k - 1)
          refine va_iald hx hb hK hP 1 0 rfl rfl (vp_in_iff.mpr ⟨by omega, by omega⟩) dX9_runsOf_44 ?_
          refine lv_topi (fun z_9 ez_9 => ?_)
          have hb_8 := hR_mn (ms (k - 1) : Int32).toNatClampNeg
          rw [← ez_9] at hb_8
          refine lv_iload_n hx hb dX9_runsOf_45 rfl (lv_at hl 3 rfl) ?_
          refine lv_ishr hx hb dX9_runsOf_46 ?_
          refine lv_topi (fun z_10 ez_10 => ?_)
          refine lv_iconst (v := 1) hx hb dX9_runsOf_47 (by decide +kernel) ?_
          refine lv_iand hx hb dX9_runsOf_48 ?_
          refine lv_topi (fun z_11 ez_11 => ?_)
          have hbz_11 : 0 ≤ z_11.toInt ∧ z_11.toInt ≤ 1 := by rw [ez_11]; exact my_andR (by decide +kernel) (by decide +kernel)
          refine lv_icmp_eq (tgt := 56) hx hb dX9_runsOf_49 (by decide) (fun c49 => ?_) (fun c49 => ?_)
          ·
            have d49 : z_6.toInt = z_11.toInt := my_eq c49 rfl rfl
            refine lv_iconst (v := 0) hx hb dX9_runsOf_56 (by decide +kernel) ?_
            refine my_gpI (my_pS (As := [.int 0]) (rest := [.int y2_4]) ⟨hx, hb, hml, hown, hts⟩ (va_cwS 1 hts gX9_runsOf_X9_flag rfl rfl rfl (by decide +kernel) ⟨Nat.le_of_ble_eq_true rfl, Nat.le_of_ble_eq_true rfl⟩) hN hK hP [] rfl rfl hl.1 rfl (Nat.le_of_ble_eq_true rfl) dX9_runsOf_57 ⟨Nat.le_of_ble_eq_true rfl, Nat.le_of_ble_eq_true rfl⟩  (k0_X9_flag l D cI cJ cK )) (fun r hp => ?_)
            obtain rfl := hp
            refine lv_iadd hx hb dX9_runsOf_60 ?_
            refine lv_topi (fun z_12 ez_12 => ?_)
            try have tz_12 : z_12.toInt = y2_4.toInt + (0 : Int) := by rw [ez_12]; exact my_addI rfl (by decide +kernel) (by omega) (by omega)
            refine lv_istore_n (lv' := [(2, .int z_12), (3, .int (nI k)), (0, .ref m0), (1, .int b9)]) hx hb dX9_runsOf_61 rfl hl (by decide) rfl (fun ls hl => ?_)
            refine lv_iinc (v := nI (k + 1)) (lv' := [(3, .int (nI (k + 1))), (2, .int z_12), (0, .ref m0), (1, .int b9)]) hx hb dX9_runsOf_62 hl (k := 1) rfl (my_incN k 1 (by decide +kernel)) (by decide) rfl (fun ls hl => ?_)
            refine lv_goto (tgt := 4) hx hb dX9_runsOf_65 (by decide) ?_
            exact ih4  (k + 1) z_12 (by omega) (by first | assumption | omega | decide +kernel) ls (lv_sub hl [0, 1, 2, 3] rfl)
          ·
            have d49 : z_6.toInt ≠ z_11.toInt := my_ne c49 rfl rfl
            refine lv_iconst (v := 1) hx hb dX9_runsOf_52 (by decide +kernel) ?_
            refine lv_goto (tgt := 57) hx hb dX9_runsOf_53 (by decide) ?_
            refine my_gpI (my_pS (As := [.int 1]) (rest := [.int y2_4]) ⟨hx, hb, hml, hown, hts⟩ (va_cwS 1 hts gX9_runsOf_X9_flag rfl rfl rfl (by decide +kernel) ⟨Nat.le_of_ble_eq_true rfl, Nat.le_of_ble_eq_true rfl⟩) hN hK hP [] rfl rfl hl.1 rfl (Nat.le_of_ble_eq_true rfl) dX9_runsOf_57 ⟨Nat.le_of_ble_eq_true rfl, Nat.le_of_ble_eq_true rfl⟩  (k1_X9_flag l D cI cJ cK )) (fun r hp => ?_)
            obtain rfl := hp
            refine lv_iadd hx hb dX9_runsOf_60 ?_
            refine lv_topi (fun z_13 ez_13 => ?_)
            try have tz_13 : z_13.toInt = y2_4.toInt + (1 : Int) := by rw [ez_13]; exact my_addI rfl (by decide +kernel) (by omega) (by omega)
            refine lv_istore_n (lv' := [(2, .int z_13), (3, .int (nI k)), (0, .ref m0), (1, .int b9)]) hx hb dX9_runsOf_61 rfl hl (by decide) rfl (fun ls hl => ?_)
            refine lv_iinc (v := nI (k + 1)) (lv' := [(3, .int (nI (k + 1))), (2, .int z_13), (0, .ref m0), (1, .int b9)]) hx hb dX9_runsOf_62 hl (k := 1) rfl (my_incN k 1 (by decide +kernel)) (by decide) rfl (fun ls hl => ?_)
            refine lv_goto (tgt := 4) hx hb dX9_runsOf_65 (by decide) ?_
            exact ih4  (k + 1) z_13 (by omega) (by first | assumption | omega | decide +kernel) ls (lv_sub hl [0, 1, 2, 3] rfl)
  have ec_14 : (0 : Int32).toInt = 0 := by decide +kernel
  exact loop4 ((64 - 0) + 1) 0 (0 : Int32) (Nat.lt_succ_self _) (by first | assumption | omega | decide +kernel) ls (lv_sub hl [0, 1, 2, 3] rfl)
abbrev wl_k_X9_keepsBits (cI cJ cK : ClassId) (m0 : Nat) (a_row : Nat) (a_tape : Nat) (a_number : Nat) (a_read : Nat) (a_readBits : Nat) (a_stands : Nat) (a_parted : Nat) (a_bitsWere : Nat) (a_stood : Nat) (a_chosen : Nat) (a_bestChosen : Nat) (a_often : Nat) (a_sorted : Nat) (a_risen : Nat) (a_risenWays : Nat) (v0_ : Int32) (v1_ : Int32) (v2_ : Int32) (v3_ : Int32) (v4_ : Int32) (v5_ : Int32) (v6_ : Int32) (v7_ : Int32) (v8_ : Int32) (v9_ : Nat → Int32) (v10_ : Nat → Int32) (v11_ : Nat → Int32) (v12_ : Nat → Int32) : va_W := [(m0, .inr (9, [.int v0_, .int v1_, .ref a_row, .ref a_tape, .int v2_, .int v3_, .int v4_, .int v5_, .ref a_number, .ref a_read, .int v6_, .ref a_readBits, .ref a_stands, .ref a_parted, .ref a_bitsWere, .ref a_stood, .ref a_chosen, .ref a_bestChosen, .int v7_, .ref a_often, .ref a_sorted, .int v8_, .ref a_risen, .ref a_risenWays])), (a_number, .inl (cI, 64, .inl v9_)), (a_stands, .inl (cI, 64, .inl v10_)), (a_parted, .inl (cI, 64, .inl v11_)), (a_bitsWere, .inl (cI, 512, .inl v12_))]
set_option maxHeartbeats 4000000 in
set_option maxRecDepth 100000 in
theorem k_X9_keepsBits (l : Launch) (D : va_G) (cI cJ cK : ClassId) (m0 : Nat) (a_row : Nat) (a_tape : Nat) (a_number : Nat) (a_read : Nat) (a_readBits : Nat) (a_stands : Nat) (a_parted : Nat) (a_bitsWere : Nat) (a_stood : Nat) (a_chosen : Nat) (a_bestChosen : Nat) (a_often : Nat) (a_sorted : Nat) (a_risen : Nat) (a_risenWays : Nat) (m_thrown : Int32) (m_told : Nat) (m_taped : Nat) (m_at : Nat) (m_to : Nat) (m_many : Nat) (m_readMany : Nat) (m_fewest : Int32) (m_size : Nat) (mn : Nat → Int32) (ms : Nat → Int32) (mp : Nat → Int32) (mw : Nat → Int32) (hz_m_told : m_told ≤ 64) (hz_m_taped : m_taped ≤ 100) (hz_m_at : m_at ≤ 100) (hz_m_to : m_to ≤ 100) (hz_m_many : m_many ≤ 64) (hz_m_readMany : m_readMany ≤ 64) (hz_m_size : m_size ≤ 64) (hR_mn : RB 0 255 mn) (hR_ms : RB 0 63 ms) (hR_mp : RB 0 63 mp) : ctV l yX9_keepsBits wsX9_keepsBits ({ frames := 2, cells := 0, slots := 0, locals := 120 } : Room) D (tyIJ cI cJ cK) [.ref m0] (wl_k_X9_keepsBits cI cJ cK m0 a_row a_tape a_number a_read a_readBits a_stands a_parted a_bitsWere a_stood a_chosen a_bestChosen a_often a_sorted a_risen a_risenWays m_thrown (nI m_told) (nI m_taped) (nI m_at) (nI m_to) (nI m_many) (nI m_readMany) m_fewest (nI m_size) mn ms mp mw) (fun (u : va_W) => ∃ (ms' : Nat → Int32) (mp' : Nat → Int32) (mw' : Nat → Int32), u = (wl_k_X9_keepsBits cI cJ cK m0 a_row a_tape a_number a_read a_readBits a_stands a_parted a_bitsWere a_stood a_chosen a_bestChosen a_often a_sorted a_risen a_risenWays m_thrown (nI m_told) (nI m_taped) (nI m_at) (nI m_to) (nI m_many) (nI m_readMany) m_fewest (nI m_size) mn ms' mp' mw') ∧ RB 0 63 ms' ∧ RB 0 63 mp') := by
  refine ctV.of (cc := cX9_keepsBits) (maxL := 3) (ret := none) (by decide) rfl (Nat.le_of_ble_eq_true rfl) ?_
  intro p e s m below meth c ls A hx hb hr hts hown hml hlocks hname hA hK hN hP hD hS hl
  have hl : lv_has ls 3 [(0, .ref m0)] := hl
  have hown : s.vm.findClass RX9 = some m.cls := hown
  have hi9 : ∀ w ∈ u_ws RX9 TX9 24, w ∈ wsX9_keepsBits := by decide +kernel
  have fl49 := hts (.fieldLink RX9 49 "PlaneColumnModel" "number" "[I") (by decide +kernel)
  have fl58 := hts (.fieldLink RX9 58 "PlaneColumnModel" "stands" "[I") (by decide +kernel)
  have fl64 := hts (.fieldLink RX9 64 "PlaneColumnModel" "bitsWere" "[I") (by decide +kernel)
  have fl88 := hts (.fieldLink RX9 88 "PlaneColumnModel" "many" "I") (by decide +kernel)
  refine lv_iconst (v := 0) hx hb dX9_keepsBits_0 (by decide +kernel) ?_
  refine lv_istore_n (lv' := [(1, .int 0), (0, .ref m0)]) hx hb dX9_keepsBits_1 rfl hl (by decide) rfl (fun ls hl => ?_)
  have loop2 : ∀ (n9 : Nat) (j : Nat) (a_stands_2 : Nat → Int32) (a_parted_2 : Nat → Int32) (a_bitsWere_2 : Nat → Int32), 8 - j < n9 → (j ≤ 8) → (RB 0 63 a_stands_2) → (RB 0 63 a_parted_2) → ∀ (H : Heap) (locs : List Loc) (ls : Array Slot), va_P D vwCl (wl_k_X9_keepsBits cI cJ cK m0 a_row a_tape a_number a_read a_readBits a_stands a_parted a_bitsWere a_stood a_chosen a_bestChosen a_often a_sorted a_risen a_risenWays m_thrown (nI m_told) (nI m_taped) (nI m_at) (nI m_to) (nI m_many) (nI m_readMany) m_fewest (nI m_size) mn a_stands_2 a_parted_2 a_bitsWere_2) H → va_D A (wl_k_X9_keepsBits cI cJ cK m0 a_row a_tape a_number a_read a_readBits a_stands a_parted a_bitsWere a_stood a_chosen a_bestChosen a_often a_sorted a_risen a_risenWays m_thrown (nI m_told) (nI m_taped) (nI m_at) (nI m_to) (nI m_many) (nI m_readMany) m_fewest (nI m_size) mn a_stands_2 a_parted_2 a_bitsWere_2) → va_S A s.heap H locs → lv_has ls 3 [(1, .int (nI j)), (0, .ref m0)] → W p l e ({ frames := 2, cells := 0, slots := 0, locals := 120 } : Room) s m [.ref m0].toArray below meth c H locs 0 0 (MQ below (va_Qv (fun (u : va_W) => ∃ (ms' : Nat → Int32) (mp' : Nat → Int32) (mw' : Nat → Int32), u = (wl_k_X9_keepsBits cI cJ cK m0 a_row a_tape a_number a_read a_readBits a_stands a_parted a_bitsWere a_stood a_chosen a_bestChosen a_often a_sorted a_risen a_risenWays m_thrown (nI m_told) (nI m_taped) (nI m_at) (nI m_to) (nI m_many) (nI m_readMany) m_fewest (nI m_size) mn ms' mp' mw') ∧ RB 0 63 ms' ∧ RB 0 63 mp') (my_B D (tyIJ cI cJ cK) A) A) [.ref m0].toArray s 0 0 A) (F0 m 2 ls []) := by
    intro n9
    induction n9 with
    | zero =>
      intro j a_stands_2 a_parted_2 a_bitsWere_2 hn9
      exact absurd hn9 (Nat.not_lt_zero _)
    | succ n9 ih2 =>
      intro j a_stands_2 a_parted_2 a_bitsWere_2 hn9 hk_j hR_a_stands_2 hR_a_parted_2 H locs ls hP hD hS hl
      refine lv_iload_n hx hb dX9_keepsBits_2 rfl (lv_at hl 0 rfl) ?_
      refine lv_bipush (v := 8) hx hb dX9_keepsBits_3 (by decide +kernel) ?_
      refine lv_icmp_ge (tgt := 61) hx hb dX9_keepsBits_5 (by decide) (fun c5 => ?_) (fun c5 => ?_)
      ·
        have d5 : ((j : Nat) : Int) ≥ (8 : Int) := my_ge c5 (nI_toInt (by omega)) (by decide +kernel)
        exact my_retV hx hb hr hlocks hK hS (wl_k_X9_keepsBits cI cJ cK m0 a_row a_tape a_number a_read a_readBits a_stands a_parted a_bitsWere a_stood a_chosen a_bestChosen a_often a_sorted a_risen a_risenWays m_thrown (nI m_told) (nI m_taped) (nI m_at) (nI m_to) (nI m_many) (nI m_readMany) m_fewest (nI m_size) mn a_stands_2 a_parted_2 a_bitsWere_2) hP hD (⟨a_stands_2, a_parted_2, a_bitsWere_2, rfl, hR_a_stands_2, hR_a_parted_2⟩) dX9_keepsBits_61
      ·
        have d5 : ((j : Nat) : Int) < (8 : Int) := my_nge c5 (nI_toInt (by omega)) (by decide +kernel)
        refine lv_aload_n hx hb dX9_keepsBits_8 rfl (lv_at hl 1 rfl) ?_
        refine lv_iload_n hx hb dX9_keepsBits_9 rfl (lv_at hl 0 rfl) ?_
        refine my_goVS (wc := (wl_k_X9_laysLevel cI cJ cK m0 a_row a_tape a_number a_read a_readBits a_stands a_parted a_bitsWere a_stood a_chosen a_bestChosen a_often a_sorted a_risen a_risenWays m_thrown (nI m_told) (nI m_taped) (nI m_at) (nI m_to) (nI m_many) (nI m_readMany) m_fewest (nI m_size) mn a_stands_2 a_parted_2)) hP hD hS hA [0, 1, 2, 3] rfl [some 0, some 1, some 2, some 3] (by decide +kernel) (my_cV (As := [.int (nI j)]) (rest := []) (ci := 9) (wc := (wl_k_X9_laysLevel cI cJ cK m0 a_row a_tape a_number a_read a_readBits a_stands a_parted a_bitsWere a_stood a_chosen a_bestChosen a_often a_sorted a_risen a_risenWays m_thrown (nI m_told) (nI m_taped) (nI m_at) (nI m_to) (nI m_many) (nI m_readMany) m_fewest (nI m_size) mn a_stands_2 a_parted_2)) ⟨hx, hb, hml, hown, hts⟩ (cwV 1 hts gX9_keepsBits_X9_laysLevel rfl rfl rfl (by decide +kernel) ⟨Nat.le_of_ble_eq_true rfl, Nat.le_of_ble_eq_true rfl⟩) hN hK hP hD [0, 1, 2, 3] rfl (by decide) rfl 0 rfl rfl rfl rfl hl.1 rfl (Nat.le_of_ble_eq_true rfl) dX9_keepsBits_10 ⟨Nat.le_of_ble_eq_true rfl, Nat.le_of_ble_eq_true rfl⟩  ((k_X9_laysLevel l D cI cJ cK m0 a_row a_tape a_number a_read a_readBits a_stands a_parted a_bitsWere a_stood a_chosen a_bestChosen a_often a_sorted a_risen a_risenWays m_thrown m_told m_taped m_at m_to m_many m_readMany m_fewest m_size mn a_stands_2 a_parted_2 (nI j) ((j : Nat) : Int) (nI_toInt (by omega)) (by first | assumption | omega | decide +kernel) (by first | assumption | omega | decide +kernel) (by first | assumption | omega | decide +kernel) (by first | assumption | omega | decide +kernel) (by first | assumption | omega | decide +kernel) (by first | assumption | omega | decide +kernel) (by first | assumption | omega | decide +kernel) hR_mn hR_a_stands_2 hR_a_parted_2 (by first | assumption | omega | decide +kernel)) _)) (fun u H locs hp hPD hS => ?_)
        obtain ⟨ms_1, mp_2, rfl, hR_ms_1, hR_mp_2, hlay⟩ := hp
        obtain ⟨hP, hD⟩ := hPD rfl
        have hP : va_P D vwCl (wl_k_X9_keepsBits cI cJ cK m0 a_row a_tape a_number a_read a_readBits a_stands a_parted a_bitsWere a_stood a_chosen a_bestChosen a_often a_sorted a_risen a_risenWays m_thrown (nI m_told) (nI m_taped) (nI m_at) (nI m_to) (nI m_many) (nI m_readMany) m_fewest (nI m_size) mn ms_1 mp_2 a_bitsWere_2) H := hP
        have hD : va_D A (wl_k_X9_keepsBits cI cJ cK m0 a_row a_tape a_number a_read a_readBits a_stands a_parted a_bitsWere a_stood a_chosen a_bestChosen a_often a_sorted a_risen a_risenWays m_thrown (nI m_told) (nI m_taped) (nI m_at) (nI m_to) (nI m_many) (nI m_readMany) m_fewest (nI m_size) mn ms_1 mp_2 a_bitsWere_2) := hD
        refine lv_iconst (v := 0) hx hb dX9_keepsBits_13 (by decide +kernel) ?_
        refine lv_istore_n (lv' := [(2, .int 0), (1, .int (nI j)), (0, .ref m0)]) hx hb dX9_keepsBits_14 rfl hl (by decide) rfl (fun ls hl => ?_)
        have loop15 : ∀ (n9 : Nat) (k : Nat) (a_bitsWere_15 : Nat → Int32), 64 - k < n9 → (k ≤ 64) → ∀ (H : Heap) (locs : List Loc) (ls : Array Slot), va_P D vwCl (wl_k_X9_keepsBits cI cJ cK m0 a_row a_tape a_number a_read a_readBits a_stands a_parted a_bitsWere a_stood a_chosen a_bestChosen a_often a_sorted a_risen a_risenWays m_thrown (nI m_told) (nI m_taped) (nI m_at) (nI m_to) (nI m_many) (nI m_readMany) m_fewest (nI m_size) mn ms_1 mp_2 a_bitsWere_15) H → va_D A (wl_k_X9_keepsBits cI cJ cK m0 a_row a_tape a_number a_read a_readBits a_stands a_parted a_bitsWere a_stood a_chosen a_bestChosen a_often a_sorted a_risen a_risenWays m_thrown (nI m_told) (nI m_taped) (nI m_at) (nI m_to) (nI m_many) (nI m_readMany) m_fewest (nI m_size) mn ms_1 mp_2 a_bitsWere_15) → va_S A s.heap H locs → lv_has ls 3 [(2, .int (nI k)), (1, .int (nI j)), (0, .ref m0)] → W p l e ({ frames := 2, cells := 0, slots := 0, locals := 120 } : Room) s m [.ref m0].toArray below meth c H locs 0 0 (MQ below (va_Qv (fun (u : va_W) => ∃ (ms' : Nat → Int32) (mp' : Nat → Int32) (mw' : Nat → Int32), u = (wl_k_X9_keepsBits cI cJ cK m0 a_row a_tape a_number a_read a_readBits a_stands a_parted a_bitsWere a_stood a_chosen a_bestChosen a_often a_sorted a_risen a_risenWays m_thrown (nI m_told) (nI m_taped) (nI m_at) (nI m_to) (nI m_many) (nI m_readMany) m_fewest (nI m_size) mn ms' mp' mw') ∧ RB 0 63 ms' ∧ RB 0 63 mp') (my_B D (tyIJ cI cJ cK) A) A) [.ref m0].toArray s 0 0 A) (F0 m 15 ls []) := by
          intro n9
          induction n9 with
          | zero =>
            intro k a_bitsWere_15 hn9
            exact absurd hn9 (Nat.not_lt_zero _)
          | succ n9 ih15 =>
            intro k a_bitsWere_15 hn9 hk_k H locs ls hP hD hS hl
            refine lv_iload_n hx hb dX9_keepsBits_15 rfl (lv_at hl 0 rfl) ?_
            refine lv_aload_n hx hb dX9_keepsBits_16 rfl (lv_at hl 2 rfl) ?_
            refine va_get (ci := 9) (v := .int (nI m_many)) (C := RX9) (T := TX9) (N := 24) hx hb hts hi9 hown hK hP 0 rfl rfl 7 (by decide) fl88 (fun _ h9 => h9) rfl dX9_keepsBits_17 ?_
            refine lv_icmp_ge (tgt := 55) hx hb dX9_keepsBits_20 (by decide) (fun c20 => ?_) (fun c20 => ?_)
            ·
              have d20 : ((k : Nat) : Int) ≥ ((m_many : Nat) : Int) := my_ge c20 (nI_toInt (by omega)) (nI_toInt (by omega))
              refine lv_iinc (v := nI (j + 1)) (lv' := [(1, .int (nI (j + 1))), (2, .int (nI k)), (0, .ref m0)]) hx hb dX9_keepsBits_55 hl (k := 1) rfl (my_incN j 1 (by decide +kernel)) (by decide) rfl (fun ls hl => ?_)
              refine lv_goto (tgt := 2) hx hb dX9_keepsBits_58 (by decide) ?_
              exact ih2  (j + 1) ms_1 mp_2 a_bitsWere_15 (by omega) (by first | assumption | omega | decide +kernel) hR_ms_1 hR_mp_2 _ _ ls hP hD hS (lv_sub hl [0, 2] rfl)
            ·
              have d20 : ((k : Nat) : Int) < ((m_many : Nat) : Int) := my_nge c20 (nI_toInt (by omega)) (nI_toInt (by omega))
              refine lv_aload_n hx hb dX9_keepsBits_23 rfl (lv_at hl 2 rfl) ?_
              refine va_get (ci := 9) (v := .ref a_bitsWere) (C := RX9) (T := TX9) (N := 24) hx hb hts hi9 hown hK hP 0 rfl rfl 14 (by decide) fl64 (fun _ h9 => h9) rfl dX9_keepsBits_24 ?_
              refine lv_bipush (v := 64) hx hb dX9_keepsBits_27 (by decide +kernel) ?_
              refine lv_iload_n hx hb dX9_keepsBits_29 rfl (lv_at hl 1 rfl) ?_
              refine lv_imul hx hb dX9_keepsBits_30 ?_
              refine my_eqi (y := nI (64 * j)) (my_mulN _ _) ?_
              refine lv_iload_n hx hb dX9_keepsBits_31 rfl (lv_at hl 0 rfl) ?_
              refine lv_iadd hx hb dX9_keepsBits_32 ?_
              refine my_eqi (y := nI (64 * j + k)) (nI_add _ _) ?_
              refine lv_aload_n hx hb dX9_keepsBits_33 rfl (lv_at hl 2 rfl) ?_
              refine va_get (ci := 9) (v := .ref a_number) (C := RX9) (T := TX9) (N := 24) hx hb hts hi9 hown hK hP 0 rfl rfl 8 (by decide) fl49 (fun _ h9 => h9) rfl dX9_keepsBits_34 ?_
              refine lv_aload_n hx hb dX9_keepsBits_37 rfl (lv_at hl 2 rfl) ?_
              refine va_get (ci := 9) (v := .ref a_stands) (C := RX9) (T := TX9) (N := 24) hx hb hts hi9 hown hK hP 0 rfl rfl 12 (by decide) fl58 (fun _ h9 => h9) rfl dX9_keepsBits_38 ?_
              refine lv_iload_n hx hb dX9_keepsBits_41 rfl (lv_at hl 0 rfl) ?_
              refine va_iald hx hb hK hP 2 0 rfl rfl (vp_in_nI (by omega) (by omega)) dX9_keepsBits_42 ?_
              refine my_eqi (y := ms_1 k) (congrArg ms_1 (nI_clamp (by omega))) ?_
              have hb_3 := hR_ms_1 k
              refine va_iald hx hb hK hP 1 0 rfl rfl (vp_in_iff.mpr ⟨by omega, by omega⟩) dX9_keepsBits_43 ?_
              refine lv_topi (fun z_5 ez_5 => ?_)
              have hb_4 := hR_mn (ms_1 k : Int32).toNatClampNeg
              rw [← ez_5] at hb_4
              refine lv_iload_n hx hb dX9_keepsBits_44 rfl (lv_at hl 1 rfl) ?_
              refine my_gpI (my_pS (As := [.int z_5, .int (nI j)]) (rest := [.int (nI (64 * j + k)), .ref a_bitsWere]) ⟨hx, hb, hml, hown, hts⟩ (va_cwS 2 hts gX9_keepsBits_X9_bitOf rfl rfl rfl (by decide +kernel) ⟨Nat.le_of_ble_eq_true rfl, Nat.le_of_ble_eq_true rfl⟩) hN hK hP [] rfl rfl hl.1 rfl (Nat.le_of_ble_eq_true rfl) dX9_keepsBits_45 ⟨Nat.le_of_ble_eq_true rfl, Nat.le_of_ble_eq_true rfl⟩  (k_X9_bitOf l D cI cJ cK z_5 (nI j))) (fun r hp => ?_)
              obtain ⟨ha_6, hb_7⟩ := hp
              obtain ⟨r_8, rfl⟩ : ∃ z, z = r := ⟨_, rfl⟩
              refine va_iast hx hb hK hP hD hS 4 0 rfl rfl (vp_in_nI (by omega) (by omega)) dX9_keepsBits_48 (fun H locs hP hD hS => ?_)
              obtain ⟨g_9, eg_9⟩ : ∃ g : Nat → Int32, g = upd a_bitsWere_15 (64 * j + k) r_8 := ⟨_, rfl⟩
              have eU : upd a_bitsWere_15 (nI (64 * j + k) : Int32).toNatClampNeg r_8 = g_9 := by rw [eg_9, show (nI (64 * j + k) : Int32).toNatClampNeg = 64 * j + k from nI_clamp (by omega)]
              rw [eU] at hP hD
              have hP : va_P D vwCl (wl_k_X9_keepsBits cI cJ cK m0 a_row a_tape a_number a_read a_readBits a_stands a_parted a_bitsWere a_stood a_chosen a_bestChosen a_often a_sorted a_risen a_risenWays m_thrown (nI m_told) (nI m_taped) (nI m_at) (nI m_to) (nI m_many) (nI m_readMany) m_fewest (nI m_size) mn ms_1 mp_2 g_9) H := hP
              have hD : va_D A (wl_k_X9_keepsBits cI cJ cK m0 a_row a_tape a_number a_read a_readBits a_stands a_parted a_bitsWere a_stood a_chosen a_bestChosen a_often a_sorted a_risen a_risenWays m_thrown (nI m_told) (nI m_taped) (nI m_at) (nI m_to) (nI m_many) (nI m_readMany) m_fewest (nI m_size) mn ms_1 mp_2 g_9) := hD
              refine lv_iinc (v := nI (k + 1)) (lv' := [(2, .int (nI (k + 1))), (1, .int (nI j)), (0, .ref m0)]) hx hb dX9_keepsBits_49 hl (k := 0) rfl (my_incN k 1 (by decide +kernel)) (by decide) rfl (fun ls hl => ?_)
              refine lv_goto (tgt := 15) hx hb dX9_keepsBits_52 (by decide) ?_
              exact ih15  (k + 1) g_9 (by omega) (by first | assumption | omega | decide +kernel) _ _ ls hP hD hS (lv_sub hl [0, 1, 2] rfl)
        exact loop15 ((64 - 0) + 1) 0 a_bitsWere_2 (Nat.lt_succ_self _) (by first | assumption | omega | decide +kernel) _ _ ls hP hD hS (lv_sub hl [0, 1, 2] rfl)
  exact loop2 ((8 - 0) + 1) 0 ms mp mw (Nat.lt_succ_self _) (by first | assumption | omega | decide +kernel) hR_ms hR_mp _ _ ls hP hD hS (lv_sub hl [0, 1] rfl)
abbrev wl_k_X9_otherBits (cI cJ cK : ClassId) (m0 : Nat) (a_row : Nat) (a_tape : Nat) (a_number : Nat) (a_read : Nat) (a_readBits : Nat) (a_stands : Nat) (a_parted : Nat) (a_bitsWere : Nat) (a_stood : Nat) (a_chosen : Nat) (a_bestChosen : Nat) (a_often : Nat) (a_sorted : Nat) (a_risen : Nat) (a_risenWays : Nat) (v0_ : Int32) (v1_ : Int32) (v2_ : Int32) (v3_ : Int32) (v4_ : Int32) (v5_ : Int32) (v6_ : Int32) (v7_ : Int32) (v8_ : Int32) (v9_ : Nat → Int32) (v10_ : Nat → Int32) (v11_ : Nat → Int32) (v12_ : Nat → Int32) : va_W := [(m0, .inr (9, [.int v0_, .int v1_, .ref a_row, .ref a_tape, .int v2_, .int v3_, .int v4_, .int v5_, .ref a_number, .ref a_read, .int v6_, .ref a_readBits, .ref a_stands, .ref a_parted, .ref a_bitsWere, .ref a_stood, .ref a_chosen, .ref a_bestChosen, .int v7_, .ref a_often, .ref a_sorted, .int v8_, .ref a_risen, .ref a_risenWays])), (a_number, .inl (cI, 64, .inl v9_)), (a_stands, .inl (cI, 64, .inl v10_)), (a_parted, .inl (cI, 64, .inl v11_)), (a_bitsWere, .inl (cI, 512, .inl v12_))]
set_option maxHeartbeats 4000000 in
set_option maxRecDepth 100000 in
theorem k_X9_otherBits (l : Launch) (D : va_G) (cI cJ cK : ClassId) (m0 : Nat) (a_row : Nat) (a_tape : Nat) (a_number : Nat) (a_read : Nat) (a_readBits : Nat) (a_stands : Nat) (a_parted : Nat) (a_bitsWere : Nat) (a_stood : Nat) (a_chosen : Nat) (a_bestChosen : Nat) (a_often : Nat) (a_sorted : Nat) (a_risen : Nat) (a_risenWays : Nat) (m_thrown : Int32) (m_told : Nat) (m_taped : Nat) (m_at : Nat) (m_to : Nat) (m_many : Nat) (m_readMany : Nat) (m_fewest : Int32) (m_size : Nat) (mn : Nat → Int32) (ms : Nat → Int32) (mp : Nat → Int32) (mw : Nat → Int32) (hz_m_told : m_told ≤ 64) (hz_m_taped : m_taped ≤ 100) (hz_m_at : m_at ≤ 100) (hz_m_to : m_to ≤ 100) (hz_m_many : m_many ≤ 64) (hz_m_readMany : m_readMany ≤ 64) (hz_m_size : m_size ≤ 64) (hR_mn : RB 0 255 mn) (hR_ms : RB 0 63 ms) (hR_mp : RB 0 63 mp) : ctI l yX9_otherBits wsX9_otherBits ({ frames := 2, cells := 0, slots := 0, locals := 120 } : Room) D (tyIJ cI cJ cK) [.ref m0] (wl_k_X9_otherBits cI cJ cK m0 a_row a_tape a_number a_read a_readBits a_stands a_parted a_bitsWere a_stood a_chosen a_bestChosen a_often a_sorted a_risen a_risenWays m_thrown (nI m_told) (nI m_taped) (nI m_at) (nI m_to) (nI m_many) (nI m_readMany) m_fewest (nI m_size) mn ms mp mw) (fun (r : Int32) (u : va_W) => ∃ (ms' : Nat → Int32) (mp' : Nat → Int32), u = (wl_k_X9_otherBits cI cJ cK m0 a_row a_tape a_number a_read a_readBits a_stands a_parted a_bitsWere a_stood a_chosen a_bestChosen a_often a_sorted a_risen a_risenWays m_thrown (nI m_told) (nI m_taped) (nI m_at) (nI m_to) (nI m_many) (nI m_readMany) m_fewest (nI m_size) mn ms' mp' mw) ∧ RB 0 63 ms' ∧ RB 0 63 mp') := by
  refine ctI.of (cc := cX9_otherBits) (maxL := 4) (ret := (some .int)) (by decide) rfl (Nat.le_of_ble_eq_true rfl) ?_
  intro p e s m below meth c ls A hx hb hr hts hown hml hlocks hname hA hK hN hP hD hS hl
  have hl : lv_has ls 4 [(0, .ref m0)] := hl
  have hown : s.vm.findClass RX9 = some m.cls := hown
  have hi9 : ∀ w ∈ u_ws RX9 TX9 24, w ∈ wsX9_otherBits := by decide +kernel
  have fl49 := hts (.fieldLink RX9 49 "PlaneColumnModel" "number" "[I") (by decide +kernel)
  have fl58 := hts (.fieldLink RX9 58 "PlaneColumnModel" "stands" "[I") (by decide +kernel)
  have fl64 := hts (.fieldLink RX9 64 "PlaneColumnModel" "bitsWere" "[I") (by decide +kernel)
  have fl88 := hts (.fieldLink RX9 88 "PlaneColumnModel" "many" "I") (by decide +kernel)
  refine lv_iconst (v := 0) hx hb dX9_otherBits_0 (by decide +kernel) ?_
  refine lv_istore_n (lv' := [(1, .int 0), (0, .ref m0)]) hx hb dX9_otherBits_1 rfl hl (by decide) rfl (fun ls hl => ?_)
  refine lv_iconst (v := 0) hx hb dX9_otherBits_2 (by decide +kernel) ?_
  refine lv_istore_n (lv' := [(2, .int 0), (1, .int 0), (0, .ref m0)]) hx hb dX9_otherBits_3 rfl hl (by decide) rfl (fun ls hl => ?_)
  have loop4 : ∀ (n9 : Nat) (j : Nat) (y1_4 : Int32) (a_stands_4 : Nat → Int32) (a_parted_4 : Nat → Int32), 8 - j < n9 → (j ≤ 8) → (RB 0 63 a_stands_4) → (RB 0 63 a_parted_4) → ∀ (H : Heap) (locs : List Loc) (ls : Array Slot), va_P D vwCl (wl_k_X9_otherBits cI cJ cK m0 a_row a_tape a_number a_read a_readBits a_stands a_parted a_bitsWere a_stood a_chosen a_bestChosen a_often a_sorted a_risen a_risenWays m_thrown (nI m_told) (nI m_taped) (nI m_at) (nI m_to) (nI m_many) (nI m_readMany) m_fewest (nI m_size) mn a_stands_4 a_parted_4 mw) H → va_D A (wl_k_X9_otherBits cI cJ cK m0 a_row a_tape a_number a_read a_readBits a_stands a_parted a_bitsWere a_stood a_chosen a_bestChosen a_often a_sorted a_risen a_risenWays m_thrown (nI m_told) (nI m_taped) (nI m_at) (nI m_to) (nI m_many) (nI m_readMany) m_fewest (nI m_size) mn a_stands_4 a_parted_4 mw) → va_S A s.heap H locs → lv_has ls 4 [(2, .int (nI j)), (1, .int y1_4), (0, .ref m0)] → W p l e ({ frames := 2, cells := 0, slots := 0, locals := 120 } : Room) s m [.ref m0].toArray below meth c H locs 0 0 (MQ below (va_Qi (fun (r : Int32) (u : va_W) => ∃ (ms' : Nat → Int32) (mp' : Nat → Int32), u = (wl_k_X9_otherBits cI cJ cK m0 a_row a_tape a_number a_read a_readBits a_stands a_parted a_bitsWere a_stood a_chosen a_bestChosen a_often a_sorted a_risen a_risenWays m_thrown (nI m_told) (nI m_taped) (nI m_at) (nI m_to) (nI m_many) (nI m_readMany) m_fewest (nI m_size) mn ms' mp' mw) ∧ RB 0 63 ms' ∧ RB 0 63 mp') (my_B D (tyIJ cI cJ cK) A) A) [.ref m0].toArray s 0 0 A) (F0 m 4 ls []) := by
    intro n9
    induction n9 with
    | zero =>
      intro j y1_4 a_stands_4 a_parted_4 hn9
      exact absurd hn9 (Nat.not_lt_zero _)
    | succ n9 ih4 =>
      intro j y1_4 a_stands_4 a_parted_4 hn9 hk_j hR_a_stands_4 hR_a_parted_4 H locs ls hP hD hS hl
      refine lv_iload_n hx hb dX9_otherBits_4 rfl (lv_at hl 0 rfl) ?_
      refine lv_bipush (v := 8) hx hb dX9_otherBits_5 (by decide +kernel) ?_
      refine lv_icmp_ge (tgt := 77) hx hb dX9_otherBits_7 (by decide) (fun c7 => ?_) (fun c7 => ?_)
      ·
        have d7 : ((j : Nat) : Int) ≥ (8 : Int) := my_ge c7 (nI_toInt (by omega)) (by decide +kernel)
        refine lv_iload_n hx hb dX9_otherBits_77 rfl (lv_at hl 1 rfl) ?_
        exact my_retI hx hb hr hlocks hK hS (wl_k_X9_otherBits cI cJ cK m0 a_row a_tape a_number a_read a_readBits a_stands a_parted a_bitsWere a_stood a_chosen a_bestChosen a_often a_sorted a_risen a_risenWays m_thrown (nI m_told) (nI m_taped) (nI m_at) (nI m_to) (nI m_many) (nI m_readMany) m_fewest (nI m_size) mn a_stands_4 a_parted_4 mw) hP hD (⟨a_stands_4, a_parted_4, rfl, hR_a_stands_4, hR_a_parted_4⟩) dX9_otherBits_78
      ·
        have d7 : ((j : Nat) : Int) < (8 : Int) := my_nge c7 (nI_toInt (by omega)) (by decide +kernel)
        refine lv_aload_n hx hb dX9_otherBits_10 rfl (lv_at hl 2 rfl) ?_
        refine lv_iload_n hx hb dX9_otherBits_11 rfl (lv_at hl 0 rfl) ?_
        refine my_goVS (wc := (wl_k_X9_laysLevel cI cJ cK m0 a_row a_tape a_number a_read a_readBits a_stands a_parted a_bitsWere a_stood a_chosen a_bestChosen a_often a_sorted a_risen a_risenWays m_thrown (nI m_told) (nI m_taped) (nI m_at) (nI m_to) (nI m_many) (nI m_readMany) m_fewest (nI m_size) mn a_stands_4 a_parted_4)) hP hD hS hA [0, 1, 2, 3] rfl [some 0, some 1, some 2, some 3] (by decide +kernel) (my_cV (As := [.int (nI j)]) (rest := []) (ci := 9) (wc := (wl_k_X9_laysLevel cI cJ cK m0 a_row a_tape a_number a_read a_readBits a_stands a_parted a_bitsWere a_stood a_chosen a_bestChosen a_often a_sorted a_risen a_risenWays m_thrown (nI m_told) (nI m_taped) (nI m_at) (nI m_to) (nI m_many) (nI m_readMany) m_fewest (nI m_size) mn a_stands_4 a_parted_4)) ⟨hx, hb, hml, hown, hts⟩ (cwV 1 hts gX9_otherBits_X9_laysLevel rfl rfl rfl (by decide +kernel) ⟨Nat.le_of_ble_eq_true rfl, Nat.le_of_ble_eq_true rfl⟩) hN hK hP hD [0, 1, 2, 3] rfl (by decide) rfl 0 rfl rfl rfl rfl hl.1 rfl (Nat.le_of_ble_eq_true rfl) dX9_otherBits_12 ⟨Nat.le_of_ble_eq_true rfl, Nat.le_of_ble_eq_true rfl⟩  ((k_X9_laysLevel l D cI cJ cK m0 a_row a_tape a_number a_read a_readBits a_stands a_parted a_bitsWere a_stood a_chosen a_bestChosen a_often a_sorted a_risen a_risenWays m_thrown m_told m_taped m_at m_to m_many m_readMany m_fewest m_size mn a_stands_4 a_parted_4 (nI j) ((j : Nat) : Int) (nI_toInt (by omega)) (by first | assumption | omega | decide +kernel) (by first | assumption | omega | decide +kernel) (by first | assumption | omega | decide +kernel) (by first | assumption | omega | decide +kernel) (by first | assumption | omega | decide +kernel) (by first | assumption | omega | decide +kernel) (by first | assumption | omega | decide +kernel) hR_mn hR_a_stands_4 hR_a_parted_4 (by first | assumption | omega | decide +kernel)) _)) (fun u H locs hp hPD hS => ?_)
        obtain ⟨ms_1, mp_2, rfl, hR_ms_1, hR_mp_2, hlay⟩ := hp
        obtain ⟨hP, hD⟩ := hPD rfl
        have hP : va_P D vwCl (wl_k_X9_otherBits cI cJ cK m0 a_row a_tape a_number a_read a_readBits a_stands a_parted a_bitsWere a_stood a_chosen a_bestChosen a_often a_sorted a_risen a_risenWays m_thrown (nI m_told) (nI m_taped) (nI m_at) (nI m_to) (nI m_many) (nI m_readMany) m_fewest (nI m_size) mn ms_1 mp_2 mw) H := hP
        have hD : va_D A (wl_k_X9_otherBits cI cJ cK m0 a_row a_tape a_number a_read a_readBits a_stands a_parted a_bitsWere a_stood a_chosen a_bestChosen a_often a_sorted a_risen a_risenWays m_thrown (nI m_told) (nI m_taped) (nI m_at) (nI m_to) (nI m_many) (nI m_readMany) m_fewest (nI m_size) mn ms_1 mp_2 mw) := hD
        refine lv_iconst (v := 0) hx hb dX9_otherBits_15 (by decide +kernel) ?_
        refine lv_istore_n (lv' := [(3, .int 0), (2, .int (nI j)), (1, .int y1_4), (0, .ref m0)]) hx hb dX9_otherBits_16 rfl hl (by decide) rfl (fun ls hl => ?_)
        have loop17 : ∀ (n9 : Nat) (k : Nat) (y1_17 : Int32), 64 - k < n9 → (k ≤ 64) → ∀ (H : Heap) (locs : List Loc) (ls : Array Slot), va_P D vwCl (wl_k_X9_otherBits cI cJ cK m0 a_row a_tape a_number a_read a_readBits a_stands a_parted a_bitsWere a_stood a_chosen a_bestChosen a_often a_sorted a_risen a_risenWays m_thrown (nI m_told) (nI m_taped) (nI m_at) (nI m_to) (nI m_many) (nI m_readMany) m_fewest (nI m_size) mn ms_1 mp_2 mw) H → va_D A (wl_k_X9_otherBits cI cJ cK m0 a_row a_tape a_number a_read a_readBits a_stands a_parted a_bitsWere a_stood a_chosen a_bestChosen a_often a_sorted a_risen a_risenWays m_thrown (nI m_told) (nI m_taped) (nI m_at) (nI m_to) (nI m_many) (nI m_readMany) m_fewest (nI m_size) mn ms_1 mp_2 mw) → va_S A s.heap H locs → lv_has ls 4 [(3, .int (nI k)), (2, .int (nI j)), (1, .int y1_17), (0, .ref m0)] → W p l e ({ frames := 2, cells := 0, slots := 0, locals := 120 } : Room) s m [.ref m0].toArray below meth c H locs 0 0 (MQ below (va_Qi (fun (r : Int32) (u : va_W) => ∃ (ms' : Nat → Int32) (mp' : Nat → Int32), u = (wl_k_X9_otherBits cI cJ cK m0 a_row a_tape a_number a_read a_readBits a_stands a_parted a_bitsWere a_stood a_chosen a_bestChosen a_often a_sorted a_risen a_risenWays m_thrown (nI m_told) (nI m_taped) (nI m_at) (nI m_to) (nI m_many) (nI m_readMany) m_fewest (nI m_size) mn ms' mp' mw) ∧ RB 0 63 ms' ∧ RB 0 63 mp') (my_B D (tyIJ cI cJ cK) A) A) [.ref m0].toArray s 0 0 A) (F0 m 17 ls []) := by
          intro n9
          induction n9 with
          | zero =>
            intro k y1_17 hn9
            exact absurd hn9 (Nat.not_lt_zero _)
          | succ n9 ih17 =>
            intro k y1_17 hn9 hk_k H locs ls hP hD hS hl
            refine lv_iload_n hx hb dX9_otherBits_17 rfl (lv_at hl 0 rfl) ?_
            refine lv_aload_n hx hb dX9_otherBits_18 rfl (lv_at hl 3 rfl) ?_
            refine va_get (ci := 9) (v := .int (nI m_many)) (C := RX9) (T := TX9) (N := 24) hx hb hts hi9 hown hK hP 0 rfl rfl 7 (by decide) fl88 (fun _ h9 => h9) rfl dX9_otherBits_19 ?_
            refine lv_icmp_ge (tgt := 71) hx hb dX9_otherBits_22 (by decide) (fun c22 => ?_) (fun c22 => ?_)
            ·
              have d22 : ((k : Nat) : Int) ≥ ((m_many : Nat) : Int) := my_ge c22 (nI_toInt (by omega)) (nI_toInt (by omega))
              refine lv_iinc (v := nI (j + 1)) (lv' := [(2, .int (nI (j + 1))), (3, .int (nI k)), (1, .int y1_17), (0, .ref m0)]) hx hb dX9_otherBits_71 hl (k := 1) rfl (my_incN j 1 (by decide +kernel)) (by decide) rfl (fun ls hl => ?_)
              refine lv_goto (tgt := 4) hx hb dX9_otherBits_74 (by decide) ?_
              exact ih4  (j + 1) y1_17 ms_1 mp_2 (by omega) (by first | assumption | omega | decide +kernel) hR_ms_1 hR_mp_2 _ _ ls hP hD hS (lv_sub hl [0, 2, 3] rfl)
            ·
              have d22 : ((k : Nat) : Int) < ((m_many : Nat) : Int) := my_nge c22 (nI_toInt (by omega)) (nI_toInt (by omega))
              refine lv_iload_n hx hb dX9_otherBits_25 rfl (lv_at hl 2 rfl) ?_
              refine lv_aload_n hx hb dX9_otherBits_26 rfl (lv_at hl 3 rfl) ?_
              refine va_get (ci := 9) (v := .ref a_bitsWere) (C := RX9) (T := TX9) (N := 24) hx hb hts hi9 hown hK hP 0 rfl rfl 14 (by decide) fl64 (fun _ h9 => h9) rfl dX9_otherBits_27 ?_
              refine lv_bipush (v := 64) hx hb dX9_otherBits_30 (by decide +kernel) ?_
              refine lv_iload_n hx hb dX9_otherBits_32 rfl (lv_at hl 1 rfl) ?_
              refine lv_imul hx hb dX9_otherBits_33 ?_
              refine my_eqi (y := nI (64 * j)) (my_mulN _ _) ?_
              refine lv_iload_n hx hb dX9_otherBits_34 rfl (lv_at hl 0 rfl) ?_
              refine lv_iadd hx hb dX9_otherBits_35 ?_
              refine my_eqi (y := nI (64 * j + k)) (nI_add _ _) ?_
              refine va_iald hx hb hK hP 4 0 rfl rfl (vp_in_nI (by omega) (by omega)) dX9_otherBits_36 ?_
              refine my_eqi (y := mw (64 * j + k)) (congrArg mw (nI_clamp (by omega))) ?_
              refine lv_aload_n hx hb dX9_otherBits_37 rfl (lv_at hl 3 rfl) ?_
              refine va_get (ci := 9) (v := .ref a_number) (C := RX9) (T := TX9) (N := 24) hx hb hts hi9 hown hK hP 0 rfl rfl 8 (by decide) fl49 (fun _ h9 => h9) rfl dX9_otherBits_38 ?_
              refine lv_aload_n hx hb dX9_otherBits_41 rfl (lv_at hl 3 rfl) ?_
              refine va_get (ci := 9) (v := .ref a_stands) (C := RX9) (T := TX9) (N := 24) hx hb hts hi9 hown hK hP 0 rfl rfl 12 (by decide) fl58 (fun _ h9 => h9) rfl dX9_otherBits_42 ?_
              refine lv_iload_n hx hb dX9_otherBits_45 rfl (lv_at hl 0 rfl) ?_
              refine va_iald hx hb hK hP 2 0 rfl rfl (vp_in_nI (by omega) (by omega)) dX9_otherBits_46 ?_
              refine my_eqi (y := ms_1 k) (congrArg ms_1 (nI_clamp (by omega))) ?_
              have hb_4 := hR_ms_1 k
              refine va_iald hx hb hK hP 1 0 rfl rfl (vp_in_iff.mpr ⟨by omega, by omega⟩) dX9_otherBits_47 ?_
              refine lv_topi (fun z_6 ez_6 => ?_)
              have hb_5 := hR_mn (ms_1 k : Int32).toNatClampNeg
              rw [← ez_6] at hb_5
              refine lv_iload_n hx hb dX9_otherBits_48 rfl (lv_at hl 1 rfl) ?_
              refine my_gpI (my_pS (As := [.int z_6, .int (nI j)]) (rest := [.int (mw (64 * j + k)), .int y1_17]) ⟨hx, hb, hml, hown, hts⟩ (va_cwS 2 hts gX9_otherBits_X9_bitOf rfl rfl rfl (by decide +kernel) ⟨Nat.le_of_ble_eq_true rfl, Nat.le_of_ble_eq_true rfl⟩) hN hK hP [] rfl rfl hl.1 rfl (Nat.le_of_ble_eq_true rfl) dX9_otherBits_49 ⟨Nat.le_of_ble_eq_true rfl, Nat.le_of_ble_eq_true rfl⟩  (k_X9_bitOf l D cI cJ cK z_6 (nI j))) (fun r hp => ?_)
              obtain ⟨ha_7, hb_8⟩ := hp
              obtain ⟨r_9, rfl⟩ : ∃ z, z = r := ⟨_, rfl⟩
              refine lv_icmp_eq (tgt := 59) hx hb dX9_otherBits_52 (by decide) (fun c52 => ?_) (fun c52 => ?_)
              ·
                have d52 : (mw (64 * j + k)).toInt = r_9.toInt := my_eq c52 rfl rfl
                refine lv_iconst (v := 0) hx hb dX9_otherBits_59 (by decide +kernel) ?_
                refine my_gpI (my_pS (As := [.int 0]) (rest := [.int y1_17]) ⟨hx, hb, hml, hown, hts⟩ (va_cwS 1 hts gX9_otherBits_X9_flag rfl rfl rfl (by decide +kernel) ⟨Nat.le_of_ble_eq_true rfl, Nat.le_of_ble_eq_true rfl⟩) hN hK hP [] rfl rfl hl.1 rfl (Nat.le_of_ble_eq_true rfl) dX9_otherBits_60 ⟨Nat.le_of_ble_eq_true rfl, Nat.le_of_ble_eq_true rfl⟩  (k0_X9_flag l D cI cJ cK )) (fun r hp => ?_)
                obtain rfl := hp
                refine lv_iadd hx hb dX9_otherBits_63 ?_
                refine lv_topi (fun z_10 ez_10 => ?_)
                try have tz_10 : z_10.toInt = y1_17.toInt + (0 : Int) := by rw [ez_10]; exact my_addI rfl (by decide +kernel) (by omega) (by omega)
                refine lv_istore_n (lv' := [(1, .int z_10), (3, .int (nI k)), (2, .int (nI j)), (0, .ref m0)]) hx hb dX9_otherBits_64 rfl hl (by decide) rfl (fun ls hl => ?_)
                refine lv_iinc (v := nI (k + 1)) (lv' := [(3, .int (nI (k + 1))), (1, .int z_10), (2, .int (nI j)), (0, .ref m0)]) hx hb dX9_otherBits_65 hl (k := 1) rfl (my_incN k 1 (by decide +kernel)) (by decide) rfl (fun ls hl => ?_)
                refine lv_goto (tgt := 17) hx hb dX9_otherBits_68 (by decide) ?_
                exact ih17  (k + 1) z_10 (by omega) (by first | assumption | omega | decide +kernel) _ _ ls hP hD hS (lv_sub hl [0, 2, 1, 3] rfl)
              ·
                have d52 : (mw (64 * j + k)).toInt ≠ r_9.toInt := my_ne c52 rfl rfl
                refine lv_iconst (v := 1) hx hb dX9_otherBits_55 (by decide +kernel) ?_
                refine lv_goto (tgt := 60) hx hb dX9_otherBits_56 (by decide) ?_
                refine my_gpI (my_pS (As := [.int 1]) (rest := [.int y1_17]) ⟨hx, hb, hml, hown, hts⟩ (va_cwS 1 hts gX9_otherBits_X9_flag rfl rfl rfl (by decide +kernel) ⟨Nat.le_of_ble_eq_true rfl, Nat.le_of_ble_eq_true rfl⟩) hN hK hP [] rfl rfl hl.1 rfl (Nat.le_of_ble_eq_true rfl) dX9_otherBits_60 ⟨Nat.le_of_ble_eq_true rfl, Nat.le_of_ble_eq_true rfl⟩  (k1_X9_flag l D cI cJ cK )) (fun r hp => ?_)
                obtain rfl := hp
                refine lv_iadd hx hb dX9_otherBits_63 ?_
                refine lv_topi (fun z_11 ez_11 => ?_)
                try have tz_11 : z_11.toInt = y1_17.toInt + (1 : Int) := by rw [ez_11]; exact my_addI rfl (by decide +kernel) (by omega) (by omega)
                refine lv_istore_n (lv' := [(1, .int z_11), (3, .int (nI k)), (2, .int (nI j)), (0, .ref m0)]) hx hb dX9_otherBits_64 rfl hl (by decide) rfl (fun ls hl => ?_)
                refine lv_iinc (v := nI (k + 1)) (lv' := [(3, .int (nI (k + 1))), (1, .int z_11), (2, .int (nI j)), (0, .ref m0)]) hx hb dX9_otherBits_65 hl (k := 1) rfl (my_incN k 1 (by decide +kernel)) (by decide) rfl (fun ls hl => ?_)
                refine lv_goto (tgt := 17) hx hb dX9_otherBits_68 (by decide) ?_
                exact ih17  (k + 1) z_11 (by omega) (by first | assumption | omega | decide +kernel) _ _ ls hP hD hS (lv_sub hl [0, 2, 1, 3] rfl)
        exact loop17 ((64 - 0) + 1) 0 y1_4 (Nat.lt_succ_self _) (by first | assumption | omega | decide +kernel) _ _ ls hP hD hS (lv_sub hl [0, 1, 2, 3] rfl)
  have ec_12 : (0 : Int32).toInt = 0 := by decide +kernel
  exact loop4 ((8 - 0) + 1) 0 (0 : Int32) ms mp (Nat.lt_succ_self _) (by first | assumption | omega | decide +kernel) hR_ms hR_mp _ _ ls hP hD hS (lv_sub hl [0, 1, 2] rfl)
