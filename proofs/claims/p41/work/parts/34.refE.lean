abbrev wl_k_X9_kth (cI cJ cK : ClassId) (m0 : Nat) (a_row : Nat) (a_tape : Nat) (a_number : Nat) (a_read : Nat) (a_readBits : Nat) (a_stands : Nat) (a_parted : Nat) (a_bitsWere : Nat) (a_stood : Nat) (a_chosen : Nat) (a_bestChosen : Nat) (a_often : Nat) (a_sorted : Nat) (a_risen : Nat) (a_risenWays : Nat) (v0_ : Int32) (v1_ : Int32) (v2_ : Int32) (v3_ : Int32) (v4_ : Int32) (v5_ : Int32) (v6_ : Int32) (v7_ : Int32) (v8_ : Int32) (v9_ : Nat → Int32) (v10_ : Nat → Int32) (v11_ : Nat → Int32) (v12_ : Nat → Int64) : va_W := [(m0, .inr (9, [.int v0_, .int v1_, .ref a_row, .ref a_tape, .int v2_, .int v3_, .int v4_, .int v5_, .ref a_number, .ref a_read, .int v6_, .ref a_readBits, .ref a_stands, .ref a_parted, .ref a_bitsWere, .ref a_stood, .ref a_chosen, .ref a_bestChosen, .int v7_, .ref a_often, .ref a_sorted, .int v8_, .ref a_risen, .ref a_risenWays])), (a_number, .inl (cI, 64, .inl v9_)), (a_often, .inl (cI, 512, .inl v10_)), (a_sorted, .inl (cI, 128, .inl v11_)), (a_row, .inl (cJ, 64, .inr (.inl v12_)))]
set_option maxHeartbeats 4000000 in
set_option maxRecDepth 100000 in
theorem k_X9_kth (l : Launch) (D : va_G) (cI cJ cK : ClassId) (m0 : Nat) (a_row : Nat) (a_tape : Nat) (a_number : Nat) (a_read : Nat) (a_readBits : Nat) (a_stands : Nat) (a_parted : Nat) (a_bitsWere : Nat) (a_stood : Nat) (a_chosen : Nat) (a_bestChosen : Nat) (a_often : Nat) (a_sorted : Nat) (a_risen : Nat) (a_risenWays : Nat) (m_thrown : Int32) (m_told : Nat) (m_taped : Nat) (m_at : Nat) (m_to : Nat) (m_many : Nat) (m_readMany : Nat) (m_fewest : Int32) (m_size : Nat) (mn : Nat → Int32) (mf : Nat → Int32) (mg : Nat → Int32) (mr : Nat → Int64) (l9 : Int32) (r9 : Int32) (k9 : Int32) (hz_m_told : m_told ≤ 64) (hz_m_taped : m_taped ≤ 100) (hz_m_at : m_at ≤ 100) (hz_m_to : m_to ≤ 100) (hz_m_many : m_many ≤ 64) (hz_m_readMany : m_readMany ≤ 64) (hz_m_size : m_size ≤ 64) (hR_mn : RB 0 255 mn) (hR_mg : RB 0 255 mg) : ctI l yX9_kth wsX9_kth ({ frames := 2, cells := 0, slots := 0, locals := 120 } : Room) D (tyIJ cI cJ cK) [.ref m0, .int l9, .int r9, .int k9] (wl_k_X9_kth cI cJ cK m0 a_row a_tape a_number a_read a_readBits a_stands a_parted a_bitsWere a_stood a_chosen a_bestChosen a_often a_sorted a_risen a_risenWays m_thrown (nI m_told) (nI m_taped) (nI m_at) (nI m_to) (nI m_many) (nI m_readMany) m_fewest (nI m_size) mn mf mg mr) (fun (r : Int32) (u : va_W) => (∃ (m_thrown' : Int32), u = (wl_k_X9_kth cI cJ cK m0 a_row a_tape a_number a_read a_readBits a_stands a_parted a_bitsWere a_stood a_chosen a_bestChosen a_often a_sorted a_risen a_risenWays m_thrown' (nI m_told) (nI m_taped) (nI m_at) (nI m_to) (nI m_many) (nI m_readMany) m_fewest (nI m_size) mn mf mg mr) ∧ r = (-1) ∧ (l9.toInt < 0 ∨ r9.toInt < l9.toInt ∨ m_many < r9.toInt ∨ k9.toInt < 0)) ∨ (∃ (m_thrown' : Int32), u = (wl_k_X9_kth cI cJ cK m0 a_row a_tape a_number a_read a_readBits a_stands a_parted a_bitsWere a_stood a_chosen a_bestChosen a_often a_sorted a_risen a_risenWays m_thrown' (nI m_told) (nI m_taped) (nI m_at) (nI m_to) (nI m_many) (nI m_readMany) m_fewest (nI m_size) mn mf mg mr) ∧ r = (-2) ∧ 0 ≤ l9.toInt ∧ l9.toInt ≤ r9.toInt ∧ r9.toInt ≤ m_many ∧ r9.toInt - l9.toInt ≤ k9.toInt) ∨ (∃ (m_thrown' : Int32) (m_told' : Nat) (m_size' : Nat) (mf' : Nat → Int32) (mg' : Nat → Int32) (mr' : Nat → Int64), u = (wl_k_X9_kth cI cJ cK m0 a_row a_tape a_number a_read a_readBits a_stands a_parted a_bitsWere a_stood a_chosen a_bestChosen a_often a_sorted a_risen a_risenWays m_thrown' (nI m_told') (nI m_taped) (nI m_at) (nI m_to) (nI m_many) (nI m_readMany) m_fewest (nI m_size') mn mf' mg' mr') ∧ m_told' ≤ 64 ∧ m_size' ≤ 64 ∧ RB 0 255 mg' ∧ 0 ≤ l9.toInt ∧ l9.toInt ≤ r9.toInt ∧ r9.toInt ≤ m_many ∧ 0 ≤ k9.toInt ∧ k9.toInt < r9.toInt - l9.toInt ∧ kthP mn l9.toInt.toNat r9.toInt.toNat k9.toInt.toNat r ∧ m_told' = 2)) := by
  refine ctI.of (cc := cX9_kth) (maxL := 6) (ret := (some .int)) (by decide) rfl (Nat.le_of_ble_eq_true rfl) ?_
  intro p e s m below meth c ls A hx hb hr hts hown hml hlocks hname hA hK hN hP hD hS hl
  have hl : lv_has ls 6 [(0, .ref m0), (1, .int l9), (2, .int r9), (3, .int k9)] := hl
  have hown : s.vm.findClass RX9 = some m.cls := hown
  have hi9 : ∀ w ∈ u_ws RX9 TX9 24, w ∈ wsX9_kth := by decide +kernel
  have fl1 := hts (.fieldLink RX9 1 "PlaneColumnModel" "thrown" "I") (by decide +kernel)
  have fl11 := hts (.fieldLink RX9 11 "PlaneColumnModel" "told" "I") (by decide +kernel)
  have fl49 := hts (.fieldLink RX9 49 "PlaneColumnModel" "number" "[I") (by decide +kernel)
  have fl79 := hts (.fieldLink RX9 79 "PlaneColumnModel" "sorted" "[I") (by decide +kernel)
  refine lv_aload_n hx hb dX9_kth_0 rfl (lv_at hl 0 rfl) ?_
  refine lv_iconst (v := 0) hx hb dX9_kth_1 (by decide +kernel) ?_
  refine va_put (ci := 9) (v := .int 0) (ty := (.int)) (C := RX9) (T := TX9) (N := 24) hx hb hts hi9 tyX9 tyX9_ok nmX9 hown hK hP hD hS 0 rfl rfl 0 (by decide) fl1 (fun _ h9 => h9) rfl (by decide +kernel) rfl rfl (Nat.le_of_ble_eq_true rfl) dX9_kth_2 (fun H locs hP hD hS => ?_)
  have hP : va_P D vwCl (wl_k_X9_kth cI cJ cK m0 a_row a_tape a_number a_read a_readBits a_stands a_parted a_bitsWere a_stood a_chosen a_bestChosen a_often a_sorted a_risen a_risenWays 0 (nI m_told) (nI m_taped) (nI m_at) (nI m_to) (nI m_many) (nI m_readMany) m_fewest (nI m_size) mn mf mg mr) H := hP
  have hD : va_D A (wl_k_X9_kth cI cJ cK m0 a_row a_tape a_number a_read a_readBits a_stands a_parted a_bitsWere a_stood a_chosen a_bestChosen a_often a_sorted a_risen a_risenWays 0 (nI m_told) (nI m_taped) (nI m_at) (nI m_to) (nI m_many) (nI m_readMany) m_fewest (nI m_size) mn mf mg mr) := hD
  refine lv_aload_n hx hb dX9_kth_5 rfl (lv_at hl 0 rfl) ?_
  refine lv_iload_n hx hb dX9_kth_6 rfl (lv_at hl 1 rfl) ?_
  refine lv_iload_n hx hb dX9_kth_7 rfl (lv_at hl 2 rfl) ?_
  refine my_gpI (my_pV (As := [.int l9, .int r9]) (rest := []) (ci := 9) ⟨hx, hb, hml, hown, hts⟩ (cwV 2 hts gX9_kth_X9_isSpan rfl rfl rfl (by decide +kernel) ⟨Nat.le_of_ble_eq_true rfl, Nat.le_of_ble_eq_true rfl⟩) hN hK hP [0] rfl 0 rfl rfl rfl rfl hl.1 rfl (Nat.le_of_ble_eq_true rfl) dX9_kth_8 ⟨Nat.le_of_ble_eq_true rfl, Nat.le_of_ble_eq_true rfl⟩  (k_X9_isSpan l D cI cJ cK m0 a_row a_tape a_number a_read a_readBits a_stands a_parted a_bitsWere a_stood a_chosen a_bestChosen a_often a_sorted a_risen a_risenWays (0 : Int32) m_told m_taped m_at m_to m_many m_readMany m_fewest m_size l9 r9 (by first | assumption | omega | decide +kernel) (by first | assumption | omega | decide +kernel) (by first | assumption | omega | decide +kernel) (by first | assumption | omega | decide +kernel) (by first | assumption | omega | decide +kernel) (by first | assumption | omega | decide +kernel) (by first | assumption | omega | decide +kernel))) (fun r hp => ?_)
  rcases hp with ⟨a_1, b_2, rfl, rfl, rfl, ha_3, hb_4⟩ | ⟨rfl, ho_5⟩
  ·
    refine lv_if_eq (tgt := 18) hx hb dX9_kth_11 (by decide) (fun c11 => ?_) (fun c11 => ?_)
    ·
      exact absurd c11 (by decide +kernel)
    ·
      refine lv_iload_n hx hb dX9_kth_14 rfl (lv_at hl 3 rfl) ?_
      refine lv_if_ge (tgt := 20) hx hb dX9_kth_15 (by decide) (fun c15 => ?_) (fun c15 => ?_)
      ·
        have d15 : k9.toInt ≥ (0 : Int) := my_ge c15 rfl (by decide +kernel)
        obtain ⟨w_6, rfl, hw_6⟩ := my_natP (x := k9) (by omega)
        have hlw_6 : w_6 < 2147483648 := by have h9 := Int32.toInt_lt (nI w_6); omega
        refine lv_iload_n hx hb dX9_kth_20 rfl (lv_at hl 3 rfl) ?_
        refine lv_iload_n hx hb dX9_kth_21 rfl (lv_at hl 2 rfl) ?_
        refine lv_iload_n hx hb dX9_kth_22 rfl (lv_at hl 1 rfl) ?_
        refine lv_isub hx hb dX9_kth_23 ?_
        refine lv_topi (fun z_7 ez_7 => ?_)
        try have tz_7 : z_7.toInt = ((b_2 : Nat) : Int) - ((a_1 : Nat) : Int) := by rw [ez_7]; exact my_subI (nI_toInt (by omega)) (nI_toInt (by omega)) (by omega) (by omega)
        refine lv_icmp_lt (tgt := 30) hx hb dX9_kth_24 (by decide) (fun c24 => ?_) (fun c24 => ?_)
        ·
          have d24 : ((w_6 : Nat) : Int) < z_7.toInt := my_lt c24 (nI_toInt (by omega)) rfl
          refine lv_aload_n hx hb dX9_kth_30 rfl (lv_at hl 0 rfl) ?_
          refine lv_iload_n hx hb dX9_kth_31 rfl (lv_at hl 1 rfl) ?_
          refine lv_iload_n hx hb dX9_kth_32 rfl (lv_at hl 2 rfl) ?_
          refine my_goVS (wc := (wl_k_X9_sorts cI cJ cK m0 a_row a_tape a_number a_read a_readBits a_stands a_parted a_bitsWere a_stood a_chosen a_bestChosen a_often a_sorted a_risen a_risenWays 0 (nI m_told) (nI m_taped) (nI m_at) (nI m_to) (nI m_many) (nI m_readMany) m_fewest (nI m_size) mn mf mg)) hP hD hS hA [0, 1, 2, 3] rfl [some 0, some 1, some 2, some 3] (by decide +kernel) (my_cV (As := [.int (nI a_1), .int (nI b_2)]) (rest := []) (ci := 9) (wc := (wl_k_X9_sorts cI cJ cK m0 a_row a_tape a_number a_read a_readBits a_stands a_parted a_bitsWere a_stood a_chosen a_bestChosen a_often a_sorted a_risen a_risenWays 0 (nI m_told) (nI m_taped) (nI m_at) (nI m_to) (nI m_many) (nI m_readMany) m_fewest (nI m_size) mn mf mg)) ⟨hx, hb, hml, hown, hts⟩ (cwV 2 hts gX9_kth_X9_sorts rfl rfl rfl (by decide +kernel) ⟨Nat.le_of_ble_eq_true rfl, Nat.le_of_ble_eq_true rfl⟩) hN hK hP hD [0, 1, 2, 3] rfl (by decide) rfl 0 rfl rfl rfl rfl hl.1 rfl (Nat.le_of_ble_eq_true rfl) dX9_kth_33 ⟨Nat.le_of_ble_eq_true rfl, Nat.le_of_ble_eq_true rfl⟩  ((k_X9_sorts l D cI cJ cK m0 a_row a_tape a_number a_read a_readBits a_stands a_parted a_bitsWere a_stood a_chosen a_bestChosen a_often a_sorted a_risen a_risenWays (0 : Int32) m_told m_taped m_at m_to m_many m_readMany m_fewest m_size mn mf mg a_1 b_2 (by first | assumption | omega | decide +kernel) (by first | assumption | omega | decide +kernel) (by first | assumption | omega | decide +kernel) (by first | assumption | omega | decide +kernel) (by first | assumption | omega | decide +kernel) (by first | assumption | omega | decide +kernel) (by first | assumption | omega | decide +kernel) hR_mn hR_mg (by first | assumption | omega | decide +kernel) (by first | assumption | omega | decide +kernel)) _)) (fun u H locs hp hPD hS => ?_)
          obtain ⟨m_size_8, mf_9, mg_10, rfl, hhz_m_size_11, hR_mg_10, hcs, hsz, hso, hsv⟩ := hp
          obtain ⟨hP, hD⟩ := hPD rfl
          have hP : va_P D vwCl (wl_k_X9_kth cI cJ cK m0 a_row a_tape a_number a_read a_readBits a_stands a_parted a_bitsWere a_stood a_chosen a_bestChosen a_often a_sorted a_risen a_risenWays 0 (nI m_told) (nI m_taped) (nI m_at) (nI m_to) (nI m_many) (nI m_readMany) m_fewest (nI m_size_8) mn mf_9 mg_10 mr) H := hP
          have hD : va_D A (wl_k_X9_kth cI cJ cK m0 a_row a_tape a_number a_read a_readBits a_stands a_parted a_bitsWere a_stood a_chosen a_bestChosen a_often a_sorted a_risen a_risenWays 0 (nI m_told) (nI m_taped) (nI m_at) (nI m_to) (nI m_many) (nI m_readMany) m_fewest (nI m_size_8) mn mf_9 mg_10 mr) := hD
          refine lv_aload_n hx hb dX9_kth_36 rfl (lv_at hl 0 rfl) ?_
          refine va_get (ci := 9) (v := .ref a_sorted) (C := RX9) (T := TX9) (N := 24) hx hb hts hi9 hown hK hP 0 rfl rfl 20 (by decide) fl79 (fun _ h9 => h9) rfl dX9_kth_37 ?_
          refine lv_iload_n hx hb dX9_kth_40 rfl (lv_at hl 3 rfl) ?_
          refine va_iald hx hb hK hP 3 0 rfl rfl (vp_in_nI (by omega) (by omega)) dX9_kth_41 ?_
          refine my_eqi (y := mg_10 w_6) (congrArg mg_10 (nI_clamp (by omega))) ?_
          have hb_12 := hR_mg_10 w_6
          refine lv_istore (lv' := [(4, .int (mg_10 w_6)), (0, .ref m0), (1, .int (nI a_1)), (2, .int (nI b_2)), (3, .int (nI w_6))]) hx hb dX9_kth_42 hl (by decide) rfl (fun ls hl => ?_)
          refine lv_iload_n hx hb dX9_kth_44 rfl (lv_at hl 2 rfl) ?_
          refine lv_istore (lv' := [(5, .int (nI a_1)), (4, .int (mg_10 w_6)), (0, .ref m0), (1, .int (nI a_1)), (2, .int (nI b_2)), (3, .int (nI w_6))]) hx hb dX9_kth_45 hl (by decide) rfl (fun ls hl => ?_)
          have loop47 : ∀ (n9 : Nat) (k : Nat), 64 - k < n9 → (k ≤ 64) → (∃ q, k ≤ q ∧ q < b_2 ∧ mn q = mg_10 w_6) → ∀ (H : Heap) (locs : List Loc) (ls : Array Slot), va_P D vwCl (wl_k_X9_kth cI cJ cK m0 a_row a_tape a_number a_read a_readBits a_stands a_parted a_bitsWere a_stood a_chosen a_bestChosen a_often a_sorted a_risen a_risenWays 0 (nI m_told) (nI m_taped) (nI m_at) (nI m_to) (nI m_many) (nI m_readMany) m_fewest (nI m_size_8) mn mf_9 mg_10 mr) H → va_D A (wl_k_X9_kth cI cJ cK m0 a_row a_tape a_number a_read a_readBits a_stands a_parted a_bitsWere a_stood a_chosen a_bestChosen a_often a_sorted a_risen a_risenWays 0 (nI m_told) (nI m_taped) (nI m_at) (nI m_to) (nI m_many) (nI m_readMany) m_fewest (nI m_size_8) mn mf_9 mg_10 mr) → va_S A s.heap H locs → lv_has ls 6 [(5, .int (nI k)), (4, .int (mg_10 w_6)), (0, .ref m0), (1, .int (nI a_1)), (2, .int (nI b_2)), (3, .int (nI w_6))] → W p l e ({ frames := 2, cells := 0, slots := 0, locals := 120 } : Room) s m [.ref m0, .int (nI a_1), .int (nI b_2), .int (nI w_6)].toArray below meth c H locs 0 0 (MQ below (va_Qi (fun (r : Int32) (u : va_W) => (∃ (m_thrown' : Int32), u = (wl_k_X9_kth cI cJ cK m0 a_row a_tape a_number a_read a_readBits a_stands a_parted a_bitsWere a_stood a_chosen a_bestChosen a_often a_sorted a_risen a_risenWays m_thrown' (nI m_told) (nI m_taped) (nI m_at) (nI m_to) (nI m_many) (nI m_readMany) m_fewest (nI m_size) mn mf mg mr) ∧ r = (-1) ∧ ((nI a_1).toInt < 0 ∨ (nI b_2).toInt < (nI a_1).toInt ∨ m_many < (nI b_2).toInt ∨ (nI w_6).toInt < 0)) ∨ (∃ (m_thrown' : Int32), u = (wl_k_X9_kth cI cJ cK m0 a_row a_tape a_number a_read a_readBits a_stands a_parted a_bitsWere a_stood a_chosen a_bestChosen a_often a_sorted a_risen a_risenWays m_thrown' (nI m_told) (nI m_taped) (nI m_at) (nI m_to) (nI m_many) (nI m_readMany) m_fewest (nI m_size) mn mf mg mr) ∧ r = (-2) ∧ 0 ≤ (nI a_1).toInt ∧ (nI a_1).toInt ≤ (nI b_2).toInt ∧ (nI b_2).toInt ≤ m_many ∧ (nI b_2).toInt - (nI a_1).toInt ≤ (nI w_6).toInt) ∨ (∃ (m_thrown' : Int32) (m_told' : Nat) (m_size' : Nat) (mf' : Nat → Int32) (mg' : Nat → Int32) (mr' : Nat → Int64), u = (wl_k_X9_kth cI cJ cK m0 a_row a_tape a_number a_read a_readBits a_stands a_parted a_bitsWere a_stood a_chosen a_bestChosen a_often a_sorted a_risen a_risenWays m_thrown' (nI m_told') (nI m_taped) (nI m_at) (nI m_to) (nI m_many) (nI m_readMany) m_fewest (nI m_size') mn mf' mg' mr') ∧ m_told' ≤ 64 ∧ m_size' ≤ 64 ∧ RB 0 255 mg' ∧ 0 ≤ (nI a_1).toInt ∧ (nI a_1).toInt ≤ (nI b_2).toInt ∧ (nI b_2).toInt ≤ m_many ∧ 0 ≤ (nI w_6).toInt ∧ (nI w_6).toInt < (nI b_2).toInt - (nI a_1).toInt ∧ kthP mn (nI a_1).toInt.toNat (nI b_2).toInt.toNat (nI w_6).toInt.toNat r ∧ m_told' = 2)) (my_B D (tyIJ cI cJ cK) A) A) [.ref m0, .int (nI a_1), .int (nI b_2), .int (nI w_6)].toArray s 0 0 A) (F0 m 47 ls []) := by
            intro n9
            induction n9 with
            | zero =>
              intro k hn9
              exact absurd hn9 (Nat.not_lt_zero _)
            | succ n9 ih47 =>
              intro k hn9 hk_k hw9 H locs ls hP hD hS hl
              have hw8 := hw9
              obtain ⟨q8, hq8, hq7, hq6⟩ := hw8
              refine lv_aload_n hx hb dX9_kth_47 rfl (lv_at hl 2 rfl) ?_
              refine va_get (ci := 9) (v := .ref a_number) (C := RX9) (T := TX9) (N := 24) hx hb hts hi9 hown hK hP 0 rfl rfl 8 (by decide) fl49 (fun _ h9 => h9) rfl dX9_kth_48 ?_
              refine lv_iload hx hb dX9_kth_51 (lv_at hl 0 rfl) ?_
              refine va_iald hx hb hK hP 1 0 rfl rfl (vp_in_nI (by omega) (by omega)) dX9_kth_53 ?_
              refine my_eqi (y := mn k) (congrArg mn (nI_clamp (by omega))) ?_
              have hb_13 := hR_mn k
              refine lv_iload hx hb dX9_kth_54 (lv_at hl 1 rfl) ?_
              refine lv_icmp_eq (tgt := 65) hx hb dX9_kth_56 (by decide) (fun c56 => ?_) (fun c56 => ?_)
              ·
                have d56 : (mn k).toInt = (mg_10 w_6).toInt := my_eq c56 rfl rfl
                refine lv_aload_n hx hb dX9_kth_65 rfl (lv_at hl 2 rfl) ?_
                refine lv_iconst (v := 0) hx hb dX9_kth_66 (by decide +kernel) ?_
                refine va_put (ci := 9) (v := .int 0) (ty := (.int)) (C := RX9) (T := TX9) (N := 24) hx hb hts hi9 tyX9 tyX9_ok nmX9 hown hK hP hD hS 0 rfl rfl 1 (by decide) fl11 (fun _ h9 => h9) rfl (by decide +kernel) rfl rfl (Nat.le_of_ble_eq_true rfl) dX9_kth_67 (fun H locs hP hD hS => ?_)
                have hP : va_P D vwCl (wl_k_X9_kth cI cJ cK m0 a_row a_tape a_number a_read a_readBits a_stands a_parted a_bitsWere a_stood a_chosen a_bestChosen a_often a_sorted a_risen a_risenWays 0 0 (nI m_taped) (nI m_at) (nI m_to) (nI m_many) (nI m_readMany) m_fewest (nI m_size_8) mn mf_9 mg_10 mr) H := hP
                have hD : va_D A (wl_k_X9_kth cI cJ cK m0 a_row a_tape a_number a_read a_readBits a_stands a_parted a_bitsWere a_stood a_chosen a_bestChosen a_often a_sorted a_risen a_risenWays 0 0 (nI m_taped) (nI m_at) (nI m_to) (nI m_many) (nI m_readMany) m_fewest (nI m_size_8) mn mf_9 mg_10 mr) := hD
                refine lv_aload_n hx hb dX9_kth_70 rfl (lv_at hl 2 rfl) ?_
                refine lv_aload_n hx hb dX9_kth_71 rfl (lv_at hl 2 rfl) ?_
                refine lv_iconst (v := 0) hx hb dX9_kth_72 (by decide +kernel) ?_
                refine lv_iload hx hb dX9_kth_73 (lv_at hl 1 rfl) ?_
                obtain ⟨w_14, ew_14, hw_14⟩ : ∃ w : Nat, (mg_10 w_6) = nI w ∧ (w : Int) = (mg_10 w_6 : Int32).toInt := my_natE (by omega)
                refine my_eqi (y := nI w_14) ew_14 ?_
                refine my_gpI (my_pV (As := [.int 0, .int (nI w_14)]) (rest := [.ref m0]) (ci := 9) ⟨hx, hb, hml, hown, hts⟩ (cwV 2 hts gX9_kth_X9_times rfl rfl rfl (by decide +kernel) ⟨Nat.le_of_ble_eq_true rfl, Nat.le_of_ble_eq_true rfl⟩) hN hK hP [0, 2] rfl 0 rfl rfl rfl rfl hl.1 rfl (Nat.le_of_ble_eq_true rfl) dX9_kth_75 ⟨Nat.le_of_ble_eq_true rfl, Nat.le_of_ble_eq_true rfl⟩  (k0_X9_times l D cI cJ cK m0 a_row a_tape a_number a_read a_readBits a_stands a_parted a_bitsWere a_stood a_chosen a_bestChosen a_often a_sorted a_risen a_risenWays (0 : Int32) 0 m_taped m_at m_to m_many m_readMany m_fewest m_size_8 mf_9 w_14 (by first | assumption | omega | decide +kernel) (by first | assumption | omega | decide +kernel) (by first | assumption | omega | decide +kernel) (by first | assumption | omega | decide +kernel) (by first | assumption | omega | decide +kernel) (by first | assumption | omega | decide +kernel) (by first | assumption | omega | decide +kernel) (by first | assumption | omega | decide +kernel))) (fun r hp => ?_)
                obtain rfl := hp
                refine lv_i2l (v := (mf_9 w_14).toInt64) hx hb dX9_kth_78 rfl ?_
                refine my_goVS (wc := (wl_k_X9_enters cI cJ cK m0 a_row a_tape a_number a_read a_readBits a_stands a_parted a_bitsWere a_stood a_chosen a_bestChosen a_often a_sorted a_risen a_risenWays 0 0 (nI m_taped) (nI m_at) (nI m_to) (nI m_many) (nI m_readMany) m_fewest (nI m_size_8) mr)) hP hD hS hA [0, 4] rfl [some 0, none, none, none, some 1] (by decide +kernel) (my_cV (As := [.long ((mf_9 w_14).toInt64)]) (rest := []) (ci := 9) (wc := (wl_k_X9_enters cI cJ cK m0 a_row a_tape a_number a_read a_readBits a_stands a_parted a_bitsWere a_stood a_chosen a_bestChosen a_often a_sorted a_risen a_risenWays 0 0 (nI m_taped) (nI m_at) (nI m_to) (nI m_many) (nI m_readMany) m_fewest (nI m_size_8) mr)) ⟨hx, hb, hml, hown, hts⟩ (cwV 1 hts gX9_kth_X9_enters rfl rfl rfl (by decide +kernel) ⟨Nat.le_of_ble_eq_true rfl, Nat.le_of_ble_eq_true rfl⟩) hN hK hP hD [0, 4] rfl (by decide) rfl 0 rfl rfl rfl rfl hl.1 rfl (Nat.le_of_ble_eq_true rfl) dX9_kth_79 ⟨Nat.le_of_ble_eq_true rfl, Nat.le_of_ble_eq_true rfl⟩  ((k_X9_enters l D cI cJ cK m0 a_row a_tape a_number a_read a_readBits a_stands a_parted a_bitsWere a_stood a_chosen a_bestChosen a_often a_sorted a_risen a_risenWays (0 : Int32) 0 m_taped m_at m_to m_many m_readMany m_fewest m_size_8 mr ((mf_9 w_14).toInt64) (by first | assumption | omega | decide +kernel) (by first | assumption | omega | decide +kernel) (by first | assumption | omega | decide +kernel) (by first | assumption | omega | decide +kernel) (by first | assumption | omega | decide +kernel) (by first | assumption | omega | decide +kernel) (by first | assumption | omega | decide +kernel) (by first | assumption | omega | decide +kernel)) _)) (fun u H locs hp hPD hS => ?_)
                obtain ⟨m_told_15, mr_16, rfl, hhz_m_told_17, ht_18⟩ := hp
                obtain ⟨hP, hD⟩ := hPD rfl
                have hP : va_P D vwCl (wl_k_X9_kth cI cJ cK m0 a_row a_tape a_number a_read a_readBits a_stands a_parted a_bitsWere a_stood a_chosen a_bestChosen a_often a_sorted a_risen a_risenWays 0 (nI m_told_15) (nI m_taped) (nI m_at) (nI m_to) (nI m_many) (nI m_readMany) m_fewest (nI m_size_8) mn mf_9 mg_10 mr_16) H := hP
                have hD : va_D A (wl_k_X9_kth cI cJ cK m0 a_row a_tape a_number a_read a_readBits a_stands a_parted a_bitsWere a_stood a_chosen a_bestChosen a_often a_sorted a_risen a_risenWays 0 (nI m_told_15) (nI m_taped) (nI m_at) (nI m_to) (nI m_many) (nI m_readMany) m_fewest (nI m_size_8) mn mf_9 mg_10 mr_16) := hD
                refine lv_aload_n hx hb dX9_kth_82 rfl (lv_at hl 2 rfl) ?_
                refine lv_iload hx hb dX9_kth_83 (lv_at hl 0 rfl) ?_
                refine lv_i2l (v := lN k) hx hb dX9_kth_85 (nI_l (by omega)) ?_
                refine my_goVS (wc := (wl_k_X9_enters cI cJ cK m0 a_row a_tape a_number a_read a_readBits a_stands a_parted a_bitsWere a_stood a_chosen a_bestChosen a_often a_sorted a_risen a_risenWays 0 (nI m_told_15) (nI m_taped) (nI m_at) (nI m_to) (nI m_many) (nI m_readMany) m_fewest (nI m_size_8) mr_16)) hP hD hS hA [0, 4] rfl [some 0, none, none, none, some 1] (by decide +kernel) (my_cV (As := [.long (lN k)]) (rest := []) (ci := 9) (wc := (wl_k_X9_enters cI cJ cK m0 a_row a_tape a_number a_read a_readBits a_stands a_parted a_bitsWere a_stood a_chosen a_bestChosen a_often a_sorted a_risen a_risenWays 0 (nI m_told_15) (nI m_taped) (nI m_at) (nI m_to) (nI m_many) (nI m_readMany) m_fewest (nI m_size_8) mr_16)) ⟨hx, hb, hml, hown, hts⟩ (cwV 1 hts gX9_kth_X9_enters rfl rfl rfl (by decide +kernel) ⟨Nat.le_of_ble_eq_true rfl, Nat.le_of_ble_eq_true rfl⟩) hN hK hP hD [0, 4] rfl (by decide) rfl 0 rfl rfl rfl rfl hl.1 rfl (Nat.le_of_ble_eq_true rfl) dX9_kth_86 ⟨Nat.le_of_ble_eq_true rfl, Nat.le_of_ble_eq_true rfl⟩  ((k_X9_enters l D cI cJ cK m0 a_row a_tape a_number a_read a_readBits a_stands a_parted a_bitsWere a_stood a_chosen a_bestChosen a_often a_sorted a_risen a_risenWays (0 : Int32) m_told_15 m_taped m_at m_to m_many m_readMany m_fewest m_size_8 mr_16 (lN k) (by first | assumption | omega | decide +kernel) (by first | assumption | omega | decide +kernel) (by first | assumption | omega | decide +kernel) (by first | assumption | omega | decide +kernel) (by first | assumption | omega | decide +kernel) (by first | assumption | omega | decide +kernel) (by first | assumption | omega | decide +kernel) (by first | assumption | omega | decide +kernel)) _)) (fun u H locs hp hPD hS => ?_)
                obtain ⟨m_told_19, mr_20, rfl, hhz_m_told_21, ht_22⟩ := hp
                obtain ⟨hP, hD⟩ := hPD rfl
                have hP : va_P D vwCl (wl_k_X9_kth cI cJ cK m0 a_row a_tape a_number a_read a_readBits a_stands a_parted a_bitsWere a_stood a_chosen a_bestChosen a_often a_sorted a_risen a_risenWays 0 (nI m_told_19) (nI m_taped) (nI m_at) (nI m_to) (nI m_many) (nI m_readMany) m_fewest (nI m_size_8) mn mf_9 mg_10 mr_20) H := hP
                have hD : va_D A (wl_k_X9_kth cI cJ cK m0 a_row a_tape a_number a_read a_readBits a_stands a_parted a_bitsWere a_stood a_chosen a_bestChosen a_often a_sorted a_risen a_risenWays 0 (nI m_told_19) (nI m_taped) (nI m_at) (nI m_to) (nI m_many) (nI m_readMany) m_fewest (nI m_size_8) mn mf_9 mg_10 mr_20) := hD
                refine lv_iload hx hb dX9_kth_89 (lv_at hl 1 rfl) ?_
                have hsI_l9 : (nI a_1).toInt = ((a_1 : Nat) : Int) := nI_toInt (by omega)
                have hsN_l9 : (nI a_1).toInt.toNat = a_1 := nIt (by omega)
                have hsI_r9 : (nI b_2).toInt = ((b_2 : Nat) : Int) := nI_toInt (by omega)
                have hsN_r9 : (nI b_2).toInt.toNat = b_2 := nIt (by omega)
                have hsI_k9 : (nI w_6).toInt = ((w_6 : Nat) : Int) := nI_toInt (by omega)
                have hsN_k9 : (nI w_6).toInt.toNat = w_6 := nIt (by omega)
                exact my_retI hx hb hr hlocks hK hS (wl_k_X9_kth cI cJ cK m0 a_row a_tape a_number a_read a_readBits a_stands a_parted a_bitsWere a_stood a_chosen a_bestChosen a_often a_sorted a_risen a_risenWays 0 (nI m_told_19) (nI m_taped) (nI m_at) (nI m_to) (nI m_many) (nI m_readMany) m_fewest (nI m_size_8) mn mf_9 mg_10 mr_20) hP hD (Or.inr (Or.inr (⟨0, m_told_19, m_size_8, mf_9, mg_10, mr_20, rfl, (by first | assumption | omega | trivial | decide +kernel), (by first | assumption | omega | trivial | decide +kernel), hR_mg_10, (by first | assumption | omega | trivial | decide +kernel), (by first | assumption | omega | trivial | decide +kernel), (by first | assumption | omega | trivial | decide +kernel), (by first | assumption | omega | trivial | decide +kernel), (by first | assumption | omega | trivial | decide +kernel), (by rw [hsN_l9, hsN_r9, hsN_k9]; exact kth_mk hsv rfl), (by first | assumption | omega | trivial | decide +kernel)⟩))) dX9_kth_91
              ·
                have d56 : (mn k).toInt ≠ (mg_10 w_6).toInt := my_ne c56 rfl rfl
                refine lv_iinc (v := nI (k + 1)) (lv' := [(5, .int (nI (k + 1))), (4, .int (mg_10 w_6)), (0, .ref m0), (1, .int (nI a_1)), (2, .int (nI b_2)), (3, .int (nI w_6))]) hx hb dX9_kth_59 hl (k := 0) rfl (my_incN k 1 (by decide +kernel)) (by decide) rfl (fun ls hl => ?_)
                refine lv_goto (tgt := 47) hx hb dX9_kth_62 (by decide) ?_
                exact ih47  (k + 1) (by omega) (by first | assumption | omega | decide +kernel) (wh_step hw9 d56) _ _ ls hP hD hS (lv_sub hl [0, 1, 2, 3, 4, 5] rfl)
          exact loop47 ((64 - a_1) + 1) a_1 (Nat.lt_succ_self _) (by first | assumption | omega | decide +kernel) (hso _ (by omega)) _ _ ls hP hD hS (lv_sub hl [0, 1, 2, 3, 4, 5] rfl)
        ·
          have d24 : ((w_6 : Nat) : Int) ≥ z_7.toInt := my_nlt c24 (nI_toInt (by omega)) rfl
          refine lv_bipush (v := (-2)) hx hb dX9_kth_27 (by decide +kernel) ?_
          have hsI_l9 : (nI a_1).toInt = ((a_1 : Nat) : Int) := nI_toInt (by omega)
          have hsN_l9 : (nI a_1).toInt.toNat = a_1 := nIt (by omega)
          have hsI_r9 : (nI b_2).toInt = ((b_2 : Nat) : Int) := nI_toInt (by omega)
          have hsN_r9 : (nI b_2).toInt.toNat = b_2 := nIt (by omega)
          have hsI_k9 : (nI w_6).toInt = ((w_6 : Nat) : Int) := nI_toInt (by omega)
          have hsN_k9 : (nI w_6).toInt.toNat = w_6 := nIt (by omega)
          exact my_retI hx hb hr hlocks hK hS (wl_k_X9_kth cI cJ cK m0 a_row a_tape a_number a_read a_readBits a_stands a_parted a_bitsWere a_stood a_chosen a_bestChosen a_often a_sorted a_risen a_risenWays 0 (nI m_told) (nI m_taped) (nI m_at) (nI m_to) (nI m_many) (nI m_readMany) m_fewest (nI m_size) mn mf mg mr) hP hD (Or.inr (Or.inl ⟨0, rfl, rfl, (by first | assumption | omega | trivial | decide +kernel), (by first | assumption | omega | trivial | decide +kernel), (by first | assumption | omega | trivial | decide +kernel), (by first | assumption | omega | trivial | decide +kernel)⟩)) dX9_kth_29
      ·
        have d15 : k9.toInt < (0 : Int) := my_nge c15 rfl (by decide +kernel)
        refine lv_iconst (v := (-1)) hx hb dX9_kth_18 (by decide +kernel) ?_
        have hsI_l9 : (nI a_1).toInt = ((a_1 : Nat) : Int) := nI_toInt (by omega)
        have hsN_l9 : (nI a_1).toInt.toNat = a_1 := nIt (by omega)
        have hsI_r9 : (nI b_2).toInt = ((b_2 : Nat) : Int) := nI_toInt (by omega)
        have hsN_r9 : (nI b_2).toInt.toNat = b_2 := nIt (by omega)
        exact my_retI hx hb hr hlocks hK hS (wl_k_X9_kth cI cJ cK m0 a_row a_tape a_number a_read a_readBits a_stands a_parted a_bitsWere a_stood a_chosen a_bestChosen a_often a_sorted a_risen a_risenWays 0 (nI m_told) (nI m_taped) (nI m_at) (nI m_to) (nI m_many) (nI m_readMany) m_fewest (nI m_size) mn mf mg mr) hP hD (Or.inl ⟨0, rfl, rfl, (by first | assumption | omega | trivial | decide +kernel)⟩) dX9_kth_19
  ·
    refine lv_if_eq (tgt := 18) hx hb dX9_kth_11 (by decide) (fun c11 => ?_) (fun c11 => ?_)
    ·
      refine lv_iconst (v := (-1)) hx hb dX9_kth_18 (by decide +kernel) ?_
      exact my_retI hx hb hr hlocks hK hS (wl_k_X9_kth cI cJ cK m0 a_row a_tape a_number a_read a_readBits a_stands a_parted a_bitsWere a_stood a_chosen a_bestChosen a_often a_sorted a_risen a_risenWays 0 (nI m_told) (nI m_taped) (nI m_at) (nI m_to) (nI m_many) (nI m_readMany) m_fewest (nI m_size) mn mf mg mr) hP hD (Or.inl ⟨0, rfl, rfl, (by first | assumption | omega | trivial | decide +kernel)⟩) dX9_kth_19
    ·
      exact absurd c11 (by decide +kernel)
abbrev wl_k_X9_rank (cI cJ cK : ClassId) (m0 : Nat) (a_row : Nat) (a_tape : Nat) (a_number : Nat) (a_read : Nat) (a_readBits : Nat) (a_stands : Nat) (a_parted : Nat) (a_bitsWere : Nat) (a_stood : Nat) (a_chosen : Nat) (a_bestChosen : Nat) (a_often : Nat) (a_sorted : Nat) (a_risen : Nat) (a_risenWays : Nat) (v0_ : Int32) (v1_ : Int32) (v2_ : Int32) (v3_ : Int32) (v4_ : Int32) (v5_ : Int32) (v6_ : Int32) (v7_ : Int32) (v8_ : Int32) (v9_ : Nat → Int32) (v10_ : Nat → Int32) : va_W := [(m0, .inr (9, [.int v0_, .int v1_, .ref a_row, .ref a_tape, .int v2_, .int v3_, .int v4_, .int v5_, .ref a_number, .ref a_read, .int v6_, .ref a_readBits, .ref a_stands, .ref a_parted, .ref a_bitsWere, .ref a_stood, .ref a_chosen, .ref a_bestChosen, .int v7_, .ref a_often, .ref a_sorted, .int v8_, .ref a_risen, .ref a_risenWays])), (a_number, .inl (cI, 64, .inl v9_)), (a_often, .inl (cI, 512, .inl v10_))]
set_option maxHeartbeats 4000000 in
set_option maxRecDepth 100000 in
theorem k_X9_rank (l : Launch) (D : va_G) (cI cJ cK : ClassId) (m0 : Nat) (a_row : Nat) (a_tape : Nat) (a_number : Nat) (a_read : Nat) (a_readBits : Nat) (a_stands : Nat) (a_parted : Nat) (a_bitsWere : Nat) (a_stood : Nat) (a_chosen : Nat) (a_bestChosen : Nat) (a_often : Nat) (a_sorted : Nat) (a_risen : Nat) (a_risenWays : Nat) (m_thrown : Int32) (m_told : Nat) (m_taped : Nat) (m_at : Nat) (m_to : Nat) (m_many : Nat) (m_readMany : Nat) (m_fewest : Int32) (m_size : Nat) (mn : Nat → Int32) (mf : Nat → Int32) (v9 : Int32) (i9 : Int32) (hz_m_told : m_told ≤ 64) (hz_m_taped : m_taped ≤ 100) (hz_m_at : m_at ≤ 100) (hz_m_to : m_to ≤ 100) (hz_m_many : m_many ≤ 64) (hz_m_readMany : m_readMany ≤ 64) (hz_m_size : m_size ≤ 64) (hR_mn : RB 0 255 mn) : ctI l yX9_rank wsX9_rank ({ frames := 2, cells := 0, slots := 0, locals := 120 } : Room) D (tyIJ cI cJ cK) [.ref m0, .int v9, .int i9] (wl_k_X9_rank cI cJ cK m0 a_row a_tape a_number a_read a_readBits a_stands a_parted a_bitsWere a_stood a_chosen a_bestChosen a_often a_sorted a_risen a_risenWays m_thrown (nI m_told) (nI m_taped) (nI m_at) (nI m_to) (nI m_many) (nI m_readMany) m_fewest (nI m_size) mn mf) (fun (r : Int32) (u : va_W) => (∃ (m_thrown' : Int32), u = (wl_k_X9_rank cI cJ cK m0 a_row a_tape a_number a_read a_readBits a_stands a_parted a_bitsWere a_stood a_chosen a_bestChosen a_often a_sorted a_risen a_risenWays m_thrown' (nI m_told) (nI m_taped) (nI m_at) (nI m_to) (nI m_many) (nI m_readMany) m_fewest (nI m_size) mn mf) ∧ r = (-1) ∧ (v9.toInt < 0 ∨ 255 < v9.toInt ∨ i9.toInt < 0 ∨ m_many < i9.toInt)) ∨ (∃ (t' : Nat) (m_thrown' : Int32) (mf' : Nat → Int32), u = (wl_k_X9_rank cI cJ cK m0 a_row a_tape a_number a_read a_readBits a_stands a_parted a_bitsWere a_stood a_chosen a_bestChosen a_often a_sorted a_risen a_risenWays m_thrown' (nI m_told) (nI m_taped) (nI m_at) (nI m_to) (nI m_many) (nI m_readMany) m_fewest (nI m_size) mn mf') ∧ r = nI t' ∧ 0 ≤ v9.toInt ∧ v9.toInt ≤ 255 ∧ 0 ≤ i9.toInt ∧ i9.toInt ≤ m_many ∧ t' = cn mn v9.toInt.toNat 0 i9.toInt.toNat)) := by
  refine ctI.of (cc := cX9_rank) (maxL := 3) (ret := (some .int)) (by decide) rfl (Nat.le_of_ble_eq_true rfl) ?_
  intro p e s m below meth c ls A hx hb hr hts hown hml hlocks hname hA hK hN hP hD hS hl
  have hl : lv_has ls 3 [(0, .ref m0), (1, .int v9), (2, .int i9)] := hl
  have hown : s.vm.findClass RX9 = some m.cls := hown
  have hi9 : ∀ w ∈ u_ws RX9 TX9 24, w ∈ wsX9_rank := by decide +kernel
  have fl1 := hts (.fieldLink RX9 1 "PlaneColumnModel" "thrown" "I") (by decide +kernel)
  have fl88 := hts (.fieldLink RX9 88 "PlaneColumnModel" "many" "I") (by decide +kernel)
  refine lv_aload_n hx hb dX9_rank_0 rfl (lv_at hl 0 rfl) ?_
  refine lv_iconst (v := 0) hx hb dX9_rank_1 (by decide +kernel) ?_
  refine va_put (ci := 9) (v := .int 0) (ty := (.int)) (C := RX9) (T := TX9) (N := 24) hx hb hts hi9 tyX9 tyX9_ok nmX9 hown hK hP hD hS 0 rfl rfl 0 (by decide) fl1 (fun _ h9 => h9) rfl (by decide +kernel) rfl rfl (Nat.le_of_ble_eq_true rfl) dX9_rank_2 (fun H locs hP hD hS => ?_)
  have hP : va_P D vwCl (wl_k_X9_rank cI cJ cK m0 a_row a_tape a_number a_read a_readBits a_stands a_parted a_bitsWere a_stood a_chosen a_bestChosen a_often a_sorted a_risen a_risenWays 0 (nI m_told) (nI m_taped) (nI m_at) (nI m_to) (nI m_many) (nI m_readMany) m_fewest (nI m_size) mn mf) H := hP
  have hD : va_D A (wl_k_X9_rank cI cJ cK m0 a_row a_tape a_number a_read a_readBits a_stands a_parted a_bitsWere a_stood a_chosen a_bestChosen a_often a_sorted a_risen a_risenWays 0 (nI m_told) (nI m_taped) (nI m_at) (nI m_to) (nI m_many) (nI m_readMany) m_fewest (nI m_size) mn mf) := hD
  refine lv_iload_n hx hb dX9_rank_5 rfl (lv_at hl 1 rfl) ?_
  refine my_gpI (my_pS (As := [.int v9]) (rest := []) ⟨hx, hb, hml, hown, hts⟩ (va_cwS 1 hts gX9_rank_X9_isNumber rfl rfl rfl (by decide +kernel) ⟨Nat.le_of_ble_eq_true rfl, Nat.le_of_ble_eq_true rfl⟩) hN hK hP [] rfl rfl hl.1 rfl (Nat.le_of_ble_eq_true rfl) dX9_rank_6 ⟨Nat.le_of_ble_eq_true rfl, Nat.le_of_ble_eq_true rfl⟩  (k_X9_isNumber l D cI cJ cK v9)) (fun r hp => ?_)
  rcases hp with ⟨k_1, rfl, rfl, ha_2⟩ | ⟨rfl, ho_3⟩
  ·
    refine lv_if_eq (tgt := 26) hx hb dX9_rank_9 (by decide) (fun c9 => ?_) (fun c9 => ?_)
    ·
      exact absurd c9 (by decide +kernel)
    ·
      refine lv_iload_n hx hb dX9_rank_12 rfl (lv_at hl 2 rfl) ?_
      refine lv_i2l (v := i9.toInt64) hx hb dX9_rank_13 rfl ?_
      refine lv_lconst (v := 0) hx hb dX9_rank_14 (by decide +kernel) ?_
      refine lv_aload_n hx hb dX9_rank_15 rfl (lv_at hl 0 rfl) ?_
      refine va_get (ci := 9) (v := .int (nI m_many)) (C := RX9) (T := TX9) (N := 24) hx hb hts hi9 hown hK hP 0 rfl rfl 7 (by decide) fl88 (fun _ h9 => h9) rfl dX9_rank_16 ?_
      refine lv_i2l (v := lN m_many) hx hb dX9_rank_19 (nI_l (by omega)) ?_
      refine my_gpI (my_pS (As := [.long i9.toInt64, .long 0, .long (lN m_many)]) (rest := []) ⟨hx, hb, hml, hown, hts⟩ (va_cwS 3 hts gX9_rank_X9_in rfl rfl rfl (by decide +kernel) ⟨Nat.le_of_ble_eq_true rfl, Nat.le_of_ble_eq_true rfl⟩) hN hK hP [] rfl rfl hl.1 rfl (Nat.le_of_ble_eq_true rfl) dX9_rank_20 ⟨Nat.le_of_ble_eq_true rfl, Nat.le_of_ble_eq_true rfl⟩  (k_X9_in l D cI cJ cK i9.toInt64 (0 : Int64) (lN m_many) i9.toInt (Int32.toInt_toInt64 _) (0 : Int) (by decide +kernel) ((m_many : Nat) : Int) (lN_toInt (by omega)))) (fun r hp => ?_)
      rcases hp with ⟨rfl, ha_4, hb_5⟩ | ⟨rfl, ho_6⟩
      ·
        refine lv_if_ne (tgt := 28) hx hb dX9_rank_23 (by decide) (fun c23 => ?_) (fun c23 => ?_)
        ·
          obtain ⟨w_7, rfl, hw_7⟩ := my_natP (x := i9) (by omega)
          have hlw_7 : w_7 < 2147483648 := by have h9 := Int32.toInt_lt (nI w_7); omega
          refine lv_aload_n hx hb dX9_rank_28 rfl (lv_at hl 0 rfl) ?_
          refine lv_iconst (v := 0) hx hb dX9_rank_29 (by decide +kernel) ?_
          refine lv_iconst (v := 0) hx hb dX9_rank_30 (by decide +kernel) ?_
          refine lv_iload_n hx hb dX9_rank_31 rfl (lv_at hl 2 rfl) ?_
          refine my_goVS (wc := (wl_k0_X9_counts cI cJ cK m0 a_row a_tape a_number a_read a_readBits a_stands a_parted a_bitsWere a_stood a_chosen a_bestChosen a_often a_sorted a_risen a_risenWays 0 (nI m_told) (nI m_taped) (nI m_at) (nI m_to) (nI m_many) (nI m_readMany) m_fewest (nI m_size) mn mf)) hP hD hS hA [0, 1, 2] rfl [some 0, some 1, some 2] (by decide +kernel) (my_cV (As := [.int 0, .int 0, .int (nI w_7)]) (rest := []) (ci := 9) (wc := (wl_k0_X9_counts cI cJ cK m0 a_row a_tape a_number a_read a_readBits a_stands a_parted a_bitsWere a_stood a_chosen a_bestChosen a_often a_sorted a_risen a_risenWays 0 (nI m_told) (nI m_taped) (nI m_at) (nI m_to) (nI m_many) (nI m_readMany) m_fewest (nI m_size) mn mf)) ⟨hx, hb, hml, hown, hts⟩ (cwV 3 hts gX9_rank_X9_counts rfl rfl rfl (by decide +kernel) ⟨Nat.le_of_ble_eq_true rfl, Nat.le_of_ble_eq_true rfl⟩) hN hK hP hD [0, 1, 2] rfl (by decide) rfl 0 rfl rfl rfl rfl hl.1 rfl (Nat.le_of_ble_eq_true rfl) dX9_rank_32 ⟨Nat.le_of_ble_eq_true rfl, Nat.le_of_ble_eq_true rfl⟩  ((k0_X9_counts l D cI cJ cK m0 a_row a_tape a_number a_read a_readBits a_stands a_parted a_bitsWere a_stood a_chosen a_bestChosen a_often a_sorted a_risen a_risenWays (0 : Int32) m_told m_taped m_at m_to m_many m_readMany m_fewest m_size mn mf 0 w_7 (by first | assumption | omega | decide +kernel) (by first | assumption | omega | decide +kernel) (by first | assumption | omega | decide +kernel) (by first | assumption | omega | decide +kernel) (by first | assumption | omega | decide +kernel) (by first | assumption | omega | decide +kernel) (by first | assumption | omega | decide +kernel) hR_mn (by first | assumption | omega | decide +kernel) (by first | assumption | omega | decide +kernel)) _)) (fun u H locs hp hPD hS => ?_)
          obtain ⟨mf_8, rfl, hcn0, hco0⟩ := hp
          obtain ⟨hP, hD⟩ := hPD rfl
          have hP : va_P D vwCl (wl_k_X9_rank cI cJ cK m0 a_row a_tape a_number a_read a_readBits a_stands a_parted a_bitsWere a_stood a_chosen a_bestChosen a_often a_sorted a_risen a_risenWays 0 (nI m_told) (nI m_taped) (nI m_at) (nI m_to) (nI m_many) (nI m_readMany) m_fewest (nI m_size) mn mf_8) H := hP
          have hD : va_D A (wl_k_X9_rank cI cJ cK m0 a_row a_tape a_number a_read a_readBits a_stands a_parted a_bitsWere a_stood a_chosen a_bestChosen a_often a_sorted a_risen a_risenWays 0 (nI m_told) (nI m_taped) (nI m_at) (nI m_to) (nI m_many) (nI m_readMany) m_fewest (nI m_size) mn mf_8) := hD
          refine lv_aload_n hx hb dX9_rank_35 rfl (lv_at hl 0 rfl) ?_
          refine lv_iconst (v := 0) hx hb dX9_rank_36 (by decide +kernel) ?_
          refine lv_iload_n hx hb dX9_rank_37 rfl (lv_at hl 1 rfl) ?_
          refine my_gpI (my_pV (As := [.int 0, .int (nI k_1)]) (rest := []) (ci := 9) ⟨hx, hb, hml, hown, hts⟩ (cwV 2 hts gX9_rank_X9_times rfl rfl rfl (by decide +kernel) ⟨Nat.le_of_ble_eq_true rfl, Nat.le_of_ble_eq_true rfl⟩) hN hK hP [0, 2] rfl 0 rfl rfl rfl rfl hl.1 rfl (Nat.le_of_ble_eq_true rfl) dX9_rank_38 ⟨Nat.le_of_ble_eq_true rfl, Nat.le_of_ble_eq_true rfl⟩  (kt_X9_times l D cI cJ cK m0 a_row a_tape a_number a_read a_readBits a_stands a_parted a_bitsWere a_stood a_chosen a_bestChosen a_often a_sorted a_risen a_risenWays (0 : Int32) m_told m_taped m_at m_to m_many m_readMany m_fewest m_size mf_8 k_1 (cnF mn 0 w_7) (by first | assumption | omega | decide +kernel) (by first | assumption | omega | decide +kernel) (by first | assumption | omega | decide +kernel) (by first | assumption | omega | decide +kernel) (by first | assumption | omega | decide +kernel) (by first | assumption | omega | decide +kernel) (by first | assumption | omega | decide +kernel) (by first | assumption | omega | decide +kernel) (hcn0) (cnF_64 (by omega)))) (fun r hp => ?_)
          obtain ⟨t_9, rfl, htm, hq_10⟩ := hp
          have hsI_v9 : (nI k_1).toInt = ((k_1 : Nat) : Int) := nI_toInt (by omega)
          have hsN_v9 : (nI k_1).toInt.toNat = k_1 := nIt (by omega)
          have hsI_i9 : (nI w_7).toInt = ((w_7 : Nat) : Int) := nI_toInt (by omega)
          have hsN_i9 : (nI w_7).toInt.toNat = w_7 := nIt (by omega)
          exact my_retI hx hb hr hlocks hK hS (wl_k_X9_rank cI cJ cK m0 a_row a_tape a_number a_read a_readBits a_stands a_parted a_bitsWere a_stood a_chosen a_bestChosen a_often a_sorted a_risen a_risenWays 0 (nI m_told) (nI m_taped) (nI m_at) (nI m_to) (nI m_many) (nI m_readMany) m_fewest (nI m_size) mn mf_8) hP hD (Or.inr (⟨t_9, 0, mf_8, rfl, rfl, (by first | assumption | omega | trivial | decide +kernel), (by first | assumption | omega | trivial | decide +kernel), (by first | assumption | omega | trivial | decide +kernel), (by first | assumption | omega | trivial | decide +kernel), (by rw [hsN_v9, hsN_i9]; exact htm)⟩)) dX9_rank_41
        ·
          exact absurd c23 (by decide +kernel)
      ·
        refine lv_if_ne (tgt := 28) hx hb dX9_rank_23 (by decide) (fun c23 => ?_) (fun c23 => ?_)
        ·
          exact absurd c23 (by decide +kernel)
        ·
          refine lv_iconst (v := (-1)) hx hb dX9_rank_26 (by decide +kernel) ?_
          have hsI_v9 : (nI k_1).toInt = ((k_1 : Nat) : Int) := nI_toInt (by omega)
          have hsN_v9 : (nI k_1).toInt.toNat = k_1 := nIt (by omega)
          exact my_retI hx hb hr hlocks hK hS (wl_k_X9_rank cI cJ cK m0 a_row a_tape a_number a_read a_readBits a_stands a_parted a_bitsWere a_stood a_chosen a_bestChosen a_often a_sorted a_risen a_risenWays 0 (nI m_told) (nI m_taped) (nI m_at) (nI m_to) (nI m_many) (nI m_readMany) m_fewest (nI m_size) mn mf) hP hD (Or.inl ⟨0, rfl, rfl, (by first | assumption | omega | trivial | decide +kernel)⟩) dX9_rank_27
  ·
    refine lv_if_eq (tgt := 26) hx hb dX9_rank_9 (by decide) (fun c9 => ?_) (fun c9 => ?_)
    ·
      refine lv_iconst (v := (-1)) hx hb dX9_rank_26 (by decide +kernel) ?_
      exact my_retI hx hb hr hlocks hK hS (wl_k_X9_rank cI cJ cK m0 a_row a_tape a_number a_read a_readBits a_stands a_parted a_bitsWere a_stood a_chosen a_bestChosen a_often a_sorted a_risen a_risenWays 0 (nI m_told) (nI m_taped) (nI m_at) (nI m_to) (nI m_many) (nI m_readMany) m_fewest (nI m_size) mn mf) hP hD (Or.inl ⟨0, rfl, rfl, (by first | assumption | omega | trivial | decide +kernel)⟩) dX9_rank_27
    ·
      exact absurd c9 (by decide +kernel)
abbrev wl_k_X9_select (cI cJ cK : ClassId) (m0 : Nat) (a_row : Nat) (a_tape : Nat) (a_number : Nat) (a_read : Nat) (a_readBits : Nat) (a_stands : Nat) (a_parted : Nat) (a_bitsWere : Nat) (a_stood : Nat) (a_chosen : Nat) (a_bestChosen : Nat) (a_often : Nat) (a_sorted : Nat) (a_risen : Nat) (a_risenWays : Nat) (v0_ : Int32) (v1_ : Int32) (v2_ : Int32) (v3_ : Int32) (v4_ : Int32) (v5_ : Int32) (v6_ : Int32) (v7_ : Int32) (v8_ : Int32) (v9_ : Nat → Int32) : va_W := [(m0, .inr (9, [.int v0_, .int v1_, .ref a_row, .ref a_tape, .int v2_, .int v3_, .int v4_, .int v5_, .ref a_number, .ref a_read, .int v6_, .ref a_readBits, .ref a_stands, .ref a_parted, .ref a_bitsWere, .ref a_stood, .ref a_chosen, .ref a_bestChosen, .int v7_, .ref a_often, .ref a_sorted, .int v8_, .ref a_risen, .ref a_risenWays])), (a_number, .inl (cI, 64, .inl v9_))]
set_option maxHeartbeats 4000000 in
set_option maxRecDepth 100000 in
theorem k_X9_select (l : Launch) (D : va_G) (cI cJ cK : ClassId) (m0 : Nat) (a_row : Nat) (a_tape : Nat) (a_number : Nat) (a_read : Nat) (a_readBits : Nat) (a_stands : Nat) (a_parted : Nat) (a_bitsWere : Nat) (a_stood : Nat) (a_chosen : Nat) (a_bestChosen : Nat) (a_often : Nat) (a_sorted : Nat) (a_risen : Nat) (a_risenWays : Nat) (m_thrown : Int32) (m_told : Nat) (m_taped : Nat) (m_at : Nat) (m_to : Nat) (m_many : Nat) (m_readMany : Nat) (m_fewest : Int32) (m_size : Nat) (mn : Nat → Int32) (v9 : Int32) (k9 : Int32) (hz_m_told : m_told ≤ 64) (hz_m_taped : m_taped ≤ 100) (hz_m_at : m_at ≤ 100) (hz_m_to : m_to ≤ 100) (hz_m_many : m_many ≤ 64) (hz_m_readMany : m_readMany ≤ 64) (hz_m_size : m_size ≤ 64) (hR_mn : RB 0 255 mn) : ctI l yX9_select wsX9_select ({ frames := 2, cells := 0, slots := 0, locals := 120 } : Room) D (tyIJ cI cJ cK) [.ref m0, .int v9, .int k9] (wl_k_X9_select cI cJ cK m0 a_row a_tape a_number a_read a_readBits a_stands a_parted a_bitsWere a_stood a_chosen a_bestChosen a_often a_sorted a_risen a_risenWays m_thrown (nI m_told) (nI m_taped) (nI m_at) (nI m_to) (nI m_many) (nI m_readMany) m_fewest (nI m_size) mn) (fun (r : Int32) (u : va_W) => (∃ (m_thrown' : Int32), u = (wl_k_X9_select cI cJ cK m0 a_row a_tape a_number a_read a_readBits a_stands a_parted a_bitsWere a_stood a_chosen a_bestChosen a_often a_sorted a_risen a_risenWays m_thrown' (nI m_told) (nI m_taped) (nI m_at) (nI m_to) (nI m_many) (nI m_readMany) m_fewest (nI m_size) mn) ∧ r = (-1) ∧ (v9.toInt < 0 ∨ 255 < v9.toInt ∨ k9.toInt < 0)) ∨ (∃ (m_thrown' : Int32), u = (wl_k_X9_select cI cJ cK m0 a_row a_tape a_number a_read a_readBits a_stands a_parted a_bitsWere a_stood a_chosen a_bestChosen a_often a_sorted a_risen a_risenWays m_thrown' (nI m_told) (nI m_taped) (nI m_at) (nI m_to) (nI m_many) (nI m_readMany) m_fewest (nI m_size) mn) ∧ r = (-2) ∧ 0 ≤ v9.toInt ∧ v9.toInt ≤ 255 ∧ 0 ≤ k9.toInt ∧ cn mn v9.toInt.toNat 0 m_many ≤ k9.toInt.toNat) ∨ (∃ (p' : Nat) (m_thrown' : Int32), u = (wl_k_X9_select cI cJ cK m0 a_row a_tape a_number a_read a_readBits a_stands a_parted a_bitsWere a_stood a_chosen a_bestChosen a_often a_sorted a_risen a_risenWays m_thrown' (nI m_told) (nI m_taped) (nI m_at) (nI m_to) (nI m_many) (nI m_readMany) m_fewest (nI m_size) mn) ∧ r = nI p' ∧ 0 ≤ v9.toInt ∧ v9.toInt ≤ 255 ∧ 0 ≤ k9.toInt ∧ p' < m_many ∧ cn mn v9.toInt.toNat 0 p' = k9.toInt.toNat ∧ mn p' = nI v9.toInt.toNat)) := by
  refine ctI.of (cc := cX9_select) (maxL := 5) (ret := (some .int)) (by decide) rfl (Nat.le_of_ble_eq_true rfl) ?_
  intro p e s m below meth c ls A hx hb hr hts hown hml hlocks hname hA hK hN hP hD hS hl
  have hl : lv_has ls 5 [(0, .ref m0), (1, .int v9), (2, .int k9)] := hl
  have hown : s.vm.findClass RX9 = some m.cls := hown
  have hi9 : ∀ w ∈ u_ws RX9 TX9 24, w ∈ wsX9_select := by decide +kernel
  have fl1 := hts (.fieldLink RX9 1 "PlaneColumnModel" "thrown" "I") (by decide +kernel)
  have fl49 := hts (.fieldLink RX9 49 "PlaneColumnModel" "number" "[I") (by decide +kernel)
  have fl88 := hts (.fieldLink RX9 88 "PlaneColumnModel" "many" "I") (by decide +kernel)
  refine lv_aload_n hx hb dX9_select_0 rfl (lv_at hl 0 rfl) ?_
  refine lv_iconst (v := 0) hx hb dX9_select_1 (by decide +kernel) ?_
  refine va_put (ci := 9) (v := .int 0) (ty := (.int)) (C := RX9) (T := TX9) (N := 24) hx hb hts hi9 tyX9 tyX9_ok nmX9 hown hK hP hD hS 0 rfl rfl 0 (by decide) fl1 (fun _ h9 => h9) rfl (by decide +kernel) rfl rfl (Nat.le_of_ble_eq_true rfl) dX9_select_2 (fun H locs hP hD hS => ?_)
  have hP : va_P D vwCl (wl_k_X9_select cI cJ cK m0 a_row a_tape a_number a_read a_readBits a_stands a_parted a_bitsWere a_stood a_chosen a_bestChosen a_often a_sorted a_risen a_risenWays 0 (nI m_told) (nI m_taped) (nI m_at) (nI m_to) (nI m_many) (nI m_readMany) m_fewest (nI m_size) mn) H := hP
  have hD : va_D A (wl_k_X9_select cI cJ cK m0 a_row a_tape a_number a_read a_readBits a_stands a_parted a_bitsWere a_stood a_chosen a_bestChosen a_often a_sorted a_risen a_risenWays 0 (nI m_told) (nI m_taped) (nI m_at) (nI m_to) (nI m_many) (nI m_readMany) m_fewest (nI m_size) mn) := hD
  refine lv_iload_n hx hb dX9_select_5 rfl (lv_at hl 1 rfl) ?_
  refine my_gpI (my_pS (As := [.int v9]) (rest := []) ⟨hx, hb, hml, hown, hts⟩ (va_cwS 1 hts gX9_select_X9_isNumber rfl rfl rfl (by decide +kernel) ⟨Nat.le_of_ble_eq_true rfl, Nat.le_of_ble_eq_true rfl⟩) hN hK hP [] rfl rfl hl.1 rfl (Nat.le_of_ble_eq_true rfl) dX9_select_6 ⟨Nat.le_of_ble_eq_true rfl, Nat.le_of_ble_eq_true rfl⟩  (k_X9_isNumber l D cI cJ cK v9)) (fun r hp => ?_)
  rcases hp with ⟨k_1, rfl, rfl, ha_2⟩ | ⟨rfl, ho_3⟩
  ·
    refine lv_if_eq (tgt := 16) hx hb dX9_select_9 (by decide) (fun c9 => ?_) (fun c9 => ?_)
    ·
      exact absurd c9 (by decide +kernel)
    ·
      refine lv_iload_n hx hb dX9_select_12 rfl (lv_at hl 2 rfl) ?_
      refine lv_if_ge (tgt := 18) hx hb dX9_select_13 (by decide) (fun c13 => ?_) (fun c13 => ?_)
      ·
        have d13 : k9.toInt ≥ (0 : Int) := my_ge c13 rfl (by decide +kernel)
        obtain ⟨w_4, rfl, hw_4⟩ := my_natP (x := k9) (by omega)
        have hlw_4 : w_4 < 2147483648 := by have h9 := Int32.toInt_lt (nI w_4); omega
        refine lv_iload_n hx hb dX9_select_18 rfl (lv_at hl 2 rfl) ?_
        refine lv_istore_n (lv' := [(3, .int (nI w_4)), (0, .ref m0), (1, .int (nI k_1)), (2, .int (nI w_4))]) hx hb dX9_select_19 rfl hl (by decide) rfl (fun ls hl => ?_)
        refine lv_iconst (v := 0) hx hb dX9_select_20 (by decide +kernel) ?_
        refine lv_istore (lv' := [(4, .int 0), (3, .int (nI w_4)), (0, .ref m0), (1, .int (nI k_1)), (2, .int (nI w_4))]) hx hb dX9_select_21 hl (by decide) rfl (fun ls hl => ?_)
        have loop23 : ∀ (n9 : Nat) (k : Nat) (t : Nat), 64 - k < n9 → (k ≤ 64) → (k ≤ m_many) → (t + cn mn k_1 0 k = w_4) → ∀ (H : Heap) (locs : List Loc) (ls : Array Slot), va_P D vwCl (wl_k_X9_select cI cJ cK m0 a_row a_tape a_number a_read a_readBits a_stands a_parted a_bitsWere a_stood a_chosen a_bestChosen a_often a_sorted a_risen a_risenWays 0 (nI m_told) (nI m_taped) (nI m_at) (nI m_to) (nI m_many) (nI m_readMany) m_fewest (nI m_size) mn) H → va_D A (wl_k_X9_select cI cJ cK m0 a_row a_tape a_number a_read a_readBits a_stands a_parted a_bitsWere a_stood a_chosen a_bestChosen a_often a_sorted a_risen a_risenWays 0 (nI m_told) (nI m_taped) (nI m_at) (nI m_to) (nI m_many) (nI m_readMany) m_fewest (nI m_size) mn) → va_S A s.heap H locs → lv_has ls 5 [(4, .int (nI k)), (3, .int (nI t)), (0, .ref m0), (1, .int (nI k_1)), (2, .int (nI w_4))] → W p l e ({ frames := 2, cells := 0, slots := 0, locals := 120 } : Room) s m [.ref m0, .int (nI k_1), .int (nI w_4)].toArray below meth c H locs 0 0 (MQ below (va_Qi (fun (r : Int32) (u : va_W) => (∃ (m_thrown' : Int32), u = (wl_k_X9_select cI cJ cK m0 a_row a_tape a_number a_read a_readBits a_stands a_parted a_bitsWere a_stood a_chosen a_bestChosen a_often a_sorted a_risen a_risenWays m_thrown' (nI m_told) (nI m_taped) (nI m_at) (nI m_to) (nI m_many) (nI m_readMany) m_fewest (nI m_size) mn) ∧ r = (-1) ∧ ((nI k_1).toInt < 0 ∨ 255 < (nI k_1).toInt ∨ (nI w_4).toInt < 0)) ∨ (∃ (m_thrown' : Int32), u = (wl_k_X9_select cI cJ cK m0 a_row a_tape a_number a_read a_readBits a_stands a_parted a_bitsWere a_stood a_chosen a_bestChosen a_often a_sorted a_risen a_risenWays m_thrown' (nI m_told) (nI m_taped) (nI m_at) (nI m_to) (nI m_many) (nI m_readMany) m_fewest (nI m_size) mn) ∧ r = (-2) ∧ 0 ≤ (nI k_1).toInt ∧ (nI k_1).toInt ≤ 255 ∧ 0 ≤ (nI w_4).toInt ∧ cn mn (nI k_1).toInt.toNat 0 m_many ≤ (nI w_4).toInt.toNat) ∨ (∃ (p' : Nat) (m_thrown' : Int32), u = (wl_k_X9_select cI cJ cK m0 a_row a_tape a_number a_read a_readBits a_stands a_parted a_bitsWere a_stood a_chosen a_bestChosen a_often a_sorted a_risen a_risenWays m_thrown' (nI m_told) (nI m_taped) (nI m_at) (nI m_to) (nI m_many) (nI m_readMany) m_fewest (nI m_size) mn) ∧ r = nI p' ∧ 0 ≤ (nI k_1).toInt ∧ (nI k_1).toInt ≤ 255 ∧ 0 ≤ (nI w_4).toInt ∧ p' < m_many ∧ cn mn (nI k_1).toInt.toNat 0 p' = (nI w_4).toInt.toNat ∧ mn p' = nI (nI k_1).toInt.toNat)) (my_B D (tyIJ cI cJ cK) A) A) [.ref m0, .int (nI k_1), .int (nI w_4)].toArray s 0 0 A) (F0 m 23 ls []) := by
          intro n9
          induction n9 with
          | zero =>
            intro k t hn9
            exact absurd hn9 (Nat.not_lt_zero _)
          | succ n9 ih23 =>
            intro k t hn9 hk_k hkz ht H locs ls hP hD hS hl
            refine lv_iload hx hb dX9_select_23 (lv_at hl 0 rfl) ?_
            refine lv_aload_n hx hb dX9_select_25 rfl (lv_at hl 2 rfl) ?_
            refine va_get (ci := 9) (v := .int (nI m_many)) (C := RX9) (T := TX9) (N := 24) hx hb hts hi9 hown hK hP 0 rfl rfl 7 (by decide) fl88 (fun _ h9 => h9) rfl dX9_select_26 ?_
            refine lv_icmp_ge (tgt := 59) hx hb dX9_select_29 (by decide) (fun c29 => ?_) (fun c29 => ?_)
            ·
              have d29 : ((k : Nat) : Int) ≥ ((m_many : Nat) : Int) := my_ge c29 (nI_toInt (by omega)) (nI_toInt (by omega))
              refine lv_bipush (v := (-2)) hx hb dX9_select_59 (by decide +kernel) ?_
              have hsI_v9 : (nI k_1).toInt = ((k_1 : Nat) : Int) := nI_toInt (by omega)
              have hsN_v9 : (nI k_1).toInt.toNat = k_1 := nIt (by omega)
              have hsI_k9 : (nI w_4).toInt = ((w_4 : Nat) : Int) := nI_toInt (by omega)
              have hsN_k9 : (nI w_4).toInt.toNat = w_4 := nIt (by omega)
              exact my_retI hx hb hr hlocks hK hS (wl_k_X9_select cI cJ cK m0 a_row a_tape a_number a_read a_readBits a_stands a_parted a_bitsWere a_stood a_chosen a_bestChosen a_often a_sorted a_risen a_risenWays 0 (nI m_told) (nI m_taped) (nI m_at) (nI m_to) (nI m_many) (nI m_readMany) m_fewest (nI m_size) mn) hP hD (Or.inr (Or.inl ⟨0, rfl, rfl, (by first | assumption | omega | trivial | decide +kernel), (by first | assumption | omega | trivial | decide +kernel), (by first | assumption | omega | trivial | decide +kernel), (by rw [hsN_v9, hsN_k9, show m_many = k from (by omega)]; omega)⟩)) dX9_select_61
            ·
              have d29 : ((k : Nat) : Int) < ((m_many : Nat) : Int) := my_nge c29 (nI_toInt (by omega)) (nI_toInt (by omega))
              refine lv_aload_n hx hb dX9_select_32 rfl (lv_at hl 2 rfl) ?_
              refine va_get (ci := 9) (v := .ref a_number) (C := RX9) (T := TX9) (N := 24) hx hb hts hi9 hown hK hP 0 rfl rfl 8 (by decide) fl49 (fun _ h9 => h9) rfl dX9_select_33 ?_
              refine lv_iload hx hb dX9_select_36 (lv_at hl 0 rfl) ?_
              refine va_iald hx hb hK hP 1 0 rfl rfl (vp_in_nI (by omega) (by omega)) dX9_select_38 ?_
              refine my_eqi (y := mn k) (congrArg mn (nI_clamp (by omega))) ?_
              have hb_5 := hR_mn k
              refine lv_iload_n hx hb dX9_select_39 rfl (lv_at hl 3 rfl) ?_
              refine lv_icmp_ne (tgt := 53) hx hb dX9_select_40 (by decide) (fun c40 => ?_) (fun c40 => ?_)
              ·
                have d40 : (mn k).toInt ≠ ((k_1 : Nat) : Int) := my_ne c40 rfl (nI_toInt (by omega))
                refine lv_iinc (v := nI (k + 1)) (lv' := [(4, .int (nI (k + 1))), (3, .int (nI t)), (0, .ref m0), (1, .int (nI k_1)), (2, .int (nI w_4))]) hx hb dX9_select_53 hl (k := 0) rfl (my_incN k 1 (by decide +kernel)) (by decide) rfl (fun ls hl => ?_)
                refine lv_goto (tgt := 23) hx hb dX9_select_56 (by decide) ?_
                exact ih23  (k + 1) t (by omega) (by first | assumption | omega | decide +kernel) (by first | assumption | omega | decide +kernel) (by first | (have h9 := cn_go1 (t := cn mn k_1 0 k) rfl (Nat.zero_le k) (by omega) (by assumption); omega) | (have h9 := cn_go0 (t := cn mn k_1 0 k) rfl (by omega) (by assumption); omega)) _ _ ls hP hD hS (lv_sub hl [0, 1, 2, 3, 4] rfl)
              ·
                have d40 : (mn k).toInt = ((k_1 : Nat) : Int) := my_eq c40 rfl (nI_toInt (by omega))
                refine lv_iload_n hx hb dX9_select_43 rfl (lv_at hl 1 rfl) ?_
                refine lv_if_ne (tgt := 50) hx hb dX9_select_44 (by decide) (fun c44 => ?_) (fun c44 => ?_)
                ·
                  have d44 : ((t : Nat) : Int) ≠ (0 : Int) := my_ne c44 (nI_toInt (by omega)) (by decide +kernel)
                  refine lv_iinc (v := nI (t - 1)) (lv' := [(3, .int (nI (t - 1))), (4, .int (nI k)), (0, .ref m0), (1, .int (nI k_1)), (2, .int (nI w_4))]) hx hb dX9_select_50 hl (k := 1) rfl (my_decG (by omega)) (by decide) rfl (fun ls hl => ?_)
                  refine lv_iinc (v := nI (k + 1)) (lv' := [(4, .int (nI (k + 1))), (3, .int (nI (t - 1))), (0, .ref m0), (1, .int (nI k_1)), (2, .int (nI w_4))]) hx hb dX9_select_53 hl (k := 1) rfl (my_incN k 1 (by decide +kernel)) (by decide) rfl (fun ls hl => ?_)
                  refine lv_goto (tgt := 23) hx hb dX9_select_56 (by decide) ?_
                  exact ih23  (k + 1) (t - 1) (by omega) (by first | assumption | omega | decide +kernel) (by first | assumption | omega | decide +kernel) (by first | (have h9 := cn_go1 (t := cn mn k_1 0 k) rfl (Nat.zero_le k) (by omega) (by assumption); omega) | (have h9 := cn_go0 (t := cn mn k_1 0 k) rfl (by omega) (by assumption); omega)) _ _ ls hP hD hS (lv_sub hl [0, 1, 2, 3, 4] rfl)
                ·
                  have d44 : ((t : Nat) : Int) = (0 : Int) := my_eq c44 (nI_toInt (by omega)) (by decide +kernel)
                  refine lv_iload hx hb dX9_select_47 (lv_at hl 0 rfl) ?_
                  have hsI_v9 : (nI k_1).toInt = ((k_1 : Nat) : Int) := nI_toInt (by omega)
                  have hsN_v9 : (nI k_1).toInt.toNat = k_1 := nIt (by omega)
                  have hsI_k9 : (nI w_4).toInt = ((w_4 : Nat) : Int) := nI_toInt (by omega)
                  have hsN_k9 : (nI w_4).toInt.toNat = w_4 := nIt (by omega)
                  exact my_retI hx hb hr hlocks hK hS (wl_k_X9_select cI cJ cK m0 a_row a_tape a_number a_read a_readBits a_stands a_parted a_bitsWere a_stood a_chosen a_bestChosen a_often a_sorted a_risen a_risenWays 0 (nI m_told) (nI m_taped) (nI m_at) (nI m_to) (nI m_many) (nI m_readMany) m_fewest (nI m_size) mn) hP hD (Or.inr (Or.inr (⟨k, 0, rfl, rfl, (by first | assumption | omega | trivial | decide +kernel), (by first | assumption | omega | trivial | decide +kernel), (by first | assumption | omega | trivial | decide +kernel), (by first | assumption | omega | trivial | decide +kernel), (by rw [hsN_v9, hsN_k9]; omega), (by rw [hsN_v9]; exact my_eqI d40 (nI_toInt (by omega)))⟩))) dX9_select_49
        exact loop23 ((64 - 0) + 1) 0 w_4 (Nat.lt_succ_self _) (by first | assumption | omega | decide +kernel) (by first | assumption | omega | decide +kernel) (Nat.add_zero _) _ _ ls hP hD hS (lv_sub hl [0, 1, 2, 3, 4] rfl)
      ·
        have d13 : k9.toInt < (0 : Int) := my_nge c13 rfl (by decide +kernel)
        refine lv_iconst (v := (-1)) hx hb dX9_select_16 (by decide +kernel) ?_
        have hsI_v9 : (nI k_1).toInt = ((k_1 : Nat) : Int) := nI_toInt (by omega)
        have hsN_v9 : (nI k_1).toInt.toNat = k_1 := nIt (by omega)
        exact my_retI hx hb hr hlocks hK hS (wl_k_X9_select cI cJ cK m0 a_row a_tape a_number a_read a_readBits a_stands a_parted a_bitsWere a_stood a_chosen a_bestChosen a_often a_sorted a_risen a_risenWays 0 (nI m_told) (nI m_taped) (nI m_at) (nI m_to) (nI m_many) (nI m_readMany) m_fewest (nI m_size) mn) hP hD (Or.inl ⟨0, rfl, rfl, (by first | assumption | omega | trivial | decide +kernel)⟩) dX9_select_17
  ·
    refine lv_if_eq (tgt := 16) hx hb dX9_select_9 (by decide) (fun c9 => ?_) (fun c9 => ?_)
    ·
      refine lv_iconst (v := (-1)) hx hb dX9_select_16 (by decide +kernel) ?_
      exact my_retI hx hb hr hlocks hK hS (wl_k_X9_select cI cJ cK m0 a_row a_tape a_number a_read a_readBits a_stands a_parted a_bitsWere a_stood a_chosen a_bestChosen a_often a_sorted a_risen a_risenWays 0 (nI m_told) (nI m_taped) (nI m_at) (nI m_to) (nI m_many) (nI m_readMany) m_fewest (nI m_size) mn) hP hD (Or.inl ⟨0, rfl, rfl, (by first | assumption | omega | trivial | decide +kernel)⟩) dX9_select_17
    ·
      exact absurd c9 (by decide +kernel)
abbrev wl_k_X9_band (cI cJ cK : ClassId) (m0 : Nat) (a_row : Nat) (a_tape : Nat) (a_number : Nat) (a_read : Nat) (a_readBits : Nat) (a_stands : Nat) (a_parted : Nat) (a_bitsWere : Nat) (a_stood : Nat) (a_chosen : Nat) (a_bestChosen : Nat) (a_often : Nat) (a_sorted : Nat) (a_risen : Nat) (a_risenWays : Nat) (v0_ : Int32) (v1_ : Int32) (v2_ : Int32) (v3_ : Int32) (v4_ : Int32) (v5_ : Int32) (v6_ : Int32) (v7_ : Int32) (v8_ : Int32) (v9_ : Nat → Int32) (v10_ : Nat → Int32) (v11_ : Nat → Int64) : va_W := [(m0, .inr (9, [.int v0_, .int v1_, .ref a_row, .ref a_tape, .int v2_, .int v3_, .int v4_, .int v5_, .ref a_number, .ref a_read, .int v6_, .ref a_readBits, .ref a_stands, .ref a_parted, .ref a_bitsWere, .ref a_stood, .ref a_chosen, .ref a_bestChosen, .int v7_, .ref a_often, .ref a_sorted, .int v8_, .ref a_risen, .ref a_risenWays])), (a_number, .inl (cI, 64, .inl v9_)), (a_often, .inl (cI, 512, .inl v10_)), (a_row, .inl (cJ, 64, .inr (.inl v11_)))]
set_option maxHeartbeats 4000000 in
set_option maxRecDepth 100000 in
theorem k_X9_band (l : Launch) (D : va_G) (cI cJ cK : ClassId) (m0 : Nat) (a_row : Nat) (a_tape : Nat) (a_number : Nat) (a_read : Nat) (a_readBits : Nat) (a_stands : Nat) (a_parted : Nat) (a_bitsWere : Nat) (a_stood : Nat) (a_chosen : Nat) (a_bestChosen : Nat) (a_often : Nat) (a_sorted : Nat) (a_risen : Nat) (a_risenWays : Nat) (m_thrown : Int32) (m_told : Nat) (m_taped : Nat) (m_at : Nat) (m_to : Nat) (m_many : Nat) (m_readMany : Nat) (m_fewest : Int32) (m_size : Nat) (mn : Nat → Int32) (mf : Nat → Int32) (mr : Nat → Int64) (l9 : Int32) (r9 : Int32) (a9 : Int32) (b9 : Int32) (hz_m_told : m_told ≤ 64) (hz_m_taped : m_taped ≤ 100) (hz_m_at : m_at ≤ 100) (hz_m_to : m_to ≤ 100) (hz_m_many : m_many ≤ 64) (hz_m_readMany : m_readMany ≤ 64) (hz_m_size : m_size ≤ 64) (hR_mn : RB 0 255 mn) : ctI l yX9_band wsX9_band ({ frames := 11, cells := 0, slots := 0, locals := 660 } : Room) D (tyIJ cI cJ cK) [.ref m0, .int l9, .int r9, .int a9, .int b9] (wl_k_X9_band cI cJ cK m0 a_row a_tape a_number a_read a_readBits a_stands a_parted a_bitsWere a_stood a_chosen a_bestChosen a_often a_sorted a_risen a_risenWays m_thrown (nI m_told) (nI m_taped) (nI m_at) (nI m_to) (nI m_many) (nI m_readMany) m_fewest (nI m_size) mn mf mr) (fun (r : Int32) (u : va_W) => (∃ (m_thrown' : Int32), u = (wl_k_X9_band cI cJ cK m0 a_row a_tape a_number a_read a_readBits a_stands a_parted a_bitsWere a_stood a_chosen a_bestChosen a_often a_sorted a_risen a_risenWays m_thrown' (nI m_told) (nI m_taped) (nI m_at) (nI m_to) (nI m_many) (nI m_readMany) m_fewest (nI m_size) mn mf mr) ∧ r = (-1) ∧ (l9.toInt < 0 ∨ r9.toInt < l9.toInt ∨ m_many < r9.toInt ∨ a9.toInt < 0 ∨ 255 < a9.toInt ∨ b9.toInt < 0 ∨ 255 < b9.toInt ∨ b9.toInt < a9.toInt)) ∨ (∃ (t' : Nat) (m_thrown' : Int32) (m_told' : Nat) (mf' : Nat → Int32) (mr' : Nat → Int64), u = (wl_k_X9_band cI cJ cK m0 a_row a_tape a_number a_read a_readBits a_stands a_parted a_bitsWere a_stood a_chosen a_bestChosen a_often a_sorted a_risen a_risenWays m_thrown' (nI m_told') (nI m_taped) (nI m_at) (nI m_to) (nI m_many) (nI m_readMany) m_fewest (nI m_size) mn mf' mr') ∧ r = nI t' ∧ m_told' ≤ 64 ∧ 0 ≤ l9.toInt ∧ l9.toInt ≤ r9.toInt ∧ r9.toInt ≤ m_many ∧ 0 ≤ a9.toInt ∧ a9.toInt ≤ b9.toInt ∧ b9.toInt ≤ 255 ∧ t' + fb_sm (cnF mn l9.toInt.toNat r9.toInt.toNat) a9.toInt.toNat = fb_sm (cnF mn l9.toInt.toNat r9.toInt.toNat) (b9.toInt.toNat + 1) ∧ m_told' = 1)) := by
  refine ctI.of (cc := cX9_band) (maxL := 5) (ret := (some .int)) (by decide) rfl (Nat.le_of_ble_eq_true rfl) ?_
  intro p e s m below meth c ls A hx hb hr hts hown hml hlocks hname hA hK hN hP hD hS hl
  have hl : lv_has ls 5 [(0, .ref m0), (1, .int l9), (2, .int r9), (3, .int a9), (4, .int b9)] := hl
  have hown : s.vm.findClass RX9 = some m.cls := hown
  have hi9 : ∀ w ∈ u_ws RX9 TX9 24, w ∈ wsX9_band := by decide +kernel
  have fl1 := hts (.fieldLink RX9 1 "PlaneColumnModel" "thrown" "I") (by decide +kernel)
  have fl11 := hts (.fieldLink RX9 11 "PlaneColumnModel" "told" "I") (by decide +kernel)
  refine lv_aload_n hx hb dX9_band_0 rfl (lv_at hl 0 rfl) ?_
  refine lv_iconst (v := 0) hx hb dX9_band_1 (by decide +kernel) ?_
  refine va_put (ci := 9) (v := .int 0) (ty := (.int)) (C := RX9) (T := TX9) (N := 24) hx hb hts hi9 tyX9 tyX9_ok nmX9 hown hK hP hD hS 0 rfl rfl 0 (by decide) fl1 (fun _ h9 => h9) rfl (by decide +kernel) rfl rfl (Nat.le_of_ble_eq_true rfl) dX9_band_2 (fun H locs hP hD hS => ?_)
  have hP : va_P D vwCl (wl_k_X9_band cI cJ cK m0 a_row a_tape a_number a_read a_readBits a_stands a_parted a_bitsWere a_stood a_chosen a_bestChosen a_often a_sorted a_risen a_risenWays 0 (nI m_told) (nI m_taped) (nI m_at) (nI m_to) (nI m_many) (nI m_readMany) m_fewest (nI m_size) mn mf mr) H := hP
  have hD : va_D A (wl_k_X9_band cI cJ cK m0 a_row a_tape a_number a_read a_readBits a_stands a_parted a_bitsWere a_stood a_chosen a_bestChosen a_often a_sorted a_risen a_risenWays 0 (nI m_told) (nI m_taped) (nI m_at) (nI m_to) (nI m_many) (nI m_readMany) m_fewest (nI m_size) mn mf mr) := hD
  refine lv_aload_n hx hb dX9_band_5 rfl (lv_at hl 0 rfl) ?_
  refine lv_iload_n hx hb dX9_band_6 rfl (lv_at hl 1 rfl) ?_
  refine lv_iload_n hx hb dX9_band_7 rfl (lv_at hl 2 rfl) ?_
  refine my_gpI (my_pV (As := [.int l9, .int r9]) (rest := []) (ci := 9) ⟨hx, hb, hml, hown, hts⟩ (cwV 2 hts gX9_band_X9_isSpan rfl rfl rfl (by decide +kernel) ⟨Nat.le_of_ble_eq_true rfl, Nat.le_of_ble_eq_true rfl⟩) hN hK hP [0] rfl 0 rfl rfl rfl rfl hl.1 rfl (Nat.le_of_ble_eq_true rfl) dX9_band_8 ⟨Nat.le_of_ble_eq_true rfl, Nat.le_of_ble_eq_true rfl⟩  (k_X9_isSpan l D cI cJ cK m0 a_row a_tape a_number a_read a_readBits a_stands a_parted a_bitsWere a_stood a_chosen a_bestChosen a_often a_sorted a_risen a_risenWays (0 : Int32) m_told m_taped m_at m_to m_many m_readMany m_fewest m_size l9 r9 (by first | assumption | omega | decide +kernel) (by first | assumption | omega | decide +kernel) (by first | assumption | omega | decide +kernel) (by first | assumption | omega | decide +kernel) (by first | assumption | omega | decide +kernel) (by first | assumption | omega | decide +kernel) (by first | assumption | omega | decide +kernel))) (fun r hp => ?_)
  rcases hp with ⟨a_1, b_2, rfl, rfl, rfl, ha_3, hb_4⟩ | ⟨rfl, ho_5⟩
  ·
    refine lv_if_eq (tgt := 35) hx hb dX9_band_11 (by decide) (fun c11 => ?_) (fun c11 => ?_)
    ·
      exact absurd c11 (by decide +kernel)
    ·
      refine lv_iload_n hx hb dX9_band_14 rfl (lv_at hl 3 rfl) ?_
      refine my_gpI (my_pS (As := [.int a9]) (rest := []) ⟨hx, hb, hml, hown, hts⟩ (va_cwS 1 hts gX9_band_X9_isNumber rfl rfl rfl (by decide +kernel) ⟨Nat.le_of_ble_eq_true rfl, Nat.le_of_ble_eq_true rfl⟩) hN hK hP [] rfl rfl hl.1 rfl (Nat.le_of_ble_eq_true rfl) dX9_band_15 ⟨Nat.le_of_ble_eq_true rfl, Nat.le_of_ble_eq_true rfl⟩  (k_X9_isNumber l D cI cJ cK a9)) (fun r hp => ?_)
      rcases hp with ⟨k_6, rfl, rfl, ha_7⟩ | ⟨rfl, ho_8⟩
      ·
        refine lv_if_eq (tgt := 35) hx hb dX9_band_18 (by decide) (fun c18 => ?_) (fun c18 => ?_)
        ·
          exact absurd c18 (by decide +kernel)
        ·
          refine lv_iload hx hb dX9_band_21 (lv_at hl 4 rfl) ?_
          refine my_gpI (my_pS (As := [.int b9]) (rest := []) ⟨hx, hb, hml, hown, hts⟩ (va_cwS 1 hts gX9_band_X9_isNumber rfl rfl rfl (by decide +kernel) ⟨Nat.le_of_ble_eq_true rfl, Nat.le_of_ble_eq_true rfl⟩) hN hK hP [] rfl rfl hl.1 rfl (Nat.le_of_ble_eq_true rfl) dX9_band_23 ⟨Nat.le_of_ble_eq_true rfl, Nat.le_of_ble_eq_true rfl⟩  (k_X9_isNumber l D cI cJ cK b9)) (fun r hp => ?_)
          rcases hp with ⟨k_9, rfl, rfl, ha_10⟩ | ⟨rfl, ho_11⟩
          ·
            refine lv_if_eq (tgt := 35) hx hb dX9_band_26 (by decide) (fun c26 => ?_) (fun c26 => ?_)
            ·
              exact absurd c26 (by decide +kernel)
            ·
              refine lv_iload_n hx hb dX9_band_29 rfl (lv_at hl 3 rfl) ?_
              refine lv_iload hx hb dX9_band_30 (lv_at hl 4 rfl) ?_
              refine lv_icmp_le (tgt := 37) hx hb dX9_band_32 (by decide) (fun c32 => ?_) (fun c32 => ?_)
              ·
                have d32 : ((k_6 : Nat) : Int) ≤ ((k_9 : Nat) : Int) := my_le c32 (nI_toInt (by omega)) (nI_toInt (by omega))
                refine lv_aload_n hx hb dX9_band_37 rfl (lv_at hl 0 rfl) ?_
                refine lv_iconst (v := 0) hx hb dX9_band_38 (by decide +kernel) ?_
                refine lv_iload_n hx hb dX9_band_39 rfl (lv_at hl 1 rfl) ?_
                refine lv_iload_n hx hb dX9_band_40 rfl (lv_at hl 2 rfl) ?_
                refine my_goVS (wc := (wl_k0_X9_counts cI cJ cK m0 a_row a_tape a_number a_read a_readBits a_stands a_parted a_bitsWere a_stood a_chosen a_bestChosen a_often a_sorted a_risen a_risenWays 0 (nI m_told) (nI m_taped) (nI m_at) (nI m_to) (nI m_many) (nI m_readMany) m_fewest (nI m_size) mn mf)) hP hD hS hA [0, 1, 2] rfl [some 0, some 1, some 2] (by decide +kernel) (my_cV (As := [.int 0, .int (nI a_1), .int (nI b_2)]) (rest := []) (ci := 9) (wc := (wl_k0_X9_counts cI cJ cK m0 a_row a_tape a_number a_read a_readBits a_stands a_parted a_bitsWere a_stood a_chosen a_bestChosen a_often a_sorted a_risen a_risenWays 0 (nI m_told) (nI m_taped) (nI m_at) (nI m_to) (nI m_many) (nI m_readMany) m_fewest (nI m_size) mn mf)) ⟨hx, hb, hml, hown, hts⟩ (cwV 3 hts gX9_band_X9_counts rfl rfl rfl (by decide +kernel) ⟨Nat.le_of_ble_eq_true rfl, Nat.le_of_ble_eq_true rfl⟩) hN hK hP hD [0, 1, 2] rfl (by decide) rfl 0 rfl rfl rfl rfl hl.1 rfl (Nat.le_of_ble_eq_true rfl) dX9_band_41 ⟨Nat.le_of_ble_eq_true rfl, Nat.le_of_ble_eq_true rfl⟩  ((k0_X9_counts l D cI cJ cK m0 a_row a_tape a_number a_read a_readBits a_stands a_parted a_bitsWere a_stood a_chosen a_bestChosen a_often a_sorted a_risen a_risenWays (0 : Int32) m_told m_taped m_at m_to m_many m_readMany m_fewest m_size mn mf a_1 b_2 (by first | assumption | omega | decide +kernel) (by first | assumption | omega | decide +kernel) (by first | assumption | omega | decide +kernel) (by first | assumption | omega | decide +kernel) (by first | assumption | omega | decide +kernel) (by first | assumption | omega | decide +kernel) (by first | assumption | omega | decide +kernel) hR_mn (by first | assumption | omega | decide +kernel) (by first | assumption | omega | decide +kernel)) _)) (fun u H locs hp hPD hS => ?_)
                obtain ⟨mf_12, rfl, hcn0, hco0⟩ := hp
                obtain ⟨hP, hD⟩ := hPD rfl
                have hP : va_P D vwCl (wl_k_X9_band cI cJ cK m0 a_row a_tape a_number a_read a_readBits a_stands a_parted a_bitsWere a_stood a_chosen a_bestChosen a_often a_sorted a_risen a_risenWays 0 (nI m_told) (nI m_taped) (nI m_at) (nI m_to) (nI m_many) (nI m_readMany) m_fewest (nI m_size) mn mf_12 mr) H := hP
                have hD : va_D A (wl_k_X9_band cI cJ cK m0 a_row a_tape a_number a_read a_readBits a_stands a_parted a_bitsWere a_stood a_chosen a_bestChosen a_often a_sorted a_risen a_risenWays 0 (nI m_told) (nI m_taped) (nI m_at) (nI m_to) (nI m_many) (nI m_readMany) m_fewest (nI m_size) mn mf_12 mr) := hD
                refine lv_aload_n hx hb dX9_band_44 rfl (lv_at hl 0 rfl) ?_
                refine lv_iconst (v := 0) hx hb dX9_band_45 (by decide +kernel) ?_
                refine va_put (ci := 9) (v := .int 0) (ty := (.int)) (C := RX9) (T := TX9) (N := 24) hx hb hts hi9 tyX9 tyX9_ok nmX9 hown hK hP hD hS 0 rfl rfl 1 (by decide) fl11 (fun _ h9 => h9) rfl (by decide +kernel) rfl rfl (Nat.le_of_ble_eq_true rfl) dX9_band_46 (fun H locs hP hD hS => ?_)
                have hP : va_P D vwCl (wl_k_X9_band cI cJ cK m0 a_row a_tape a_number a_read a_readBits a_stands a_parted a_bitsWere a_stood a_chosen a_bestChosen a_often a_sorted a_risen a_risenWays 0 0 (nI m_taped) (nI m_at) (nI m_to) (nI m_many) (nI m_readMany) m_fewest (nI m_size) mn mf_12 mr) H := hP
                have hD : va_D A (wl_k_X9_band cI cJ cK m0 a_row a_tape a_number a_read a_readBits a_stands a_parted a_bitsWere a_stood a_chosen a_bestChosen a_often a_sorted a_risen a_risenWays 0 0 (nI m_taped) (nI m_at) (nI m_to) (nI m_many) (nI m_readMany) m_fewest (nI m_size) mn mf_12 mr) := hD
                refine lv_aload_n hx hb dX9_band_49 rfl (lv_at hl 0 rfl) ?_
                refine lv_aload_n hx hb dX9_band_50 rfl (lv_at hl 0 rfl) ?_
                refine lv_iconst (v := 0) hx hb dX9_band_51 (by decide +kernel) ?_
                refine lv_sipush (v := 256) hx hb dX9_band_52 (by decide +kernel) ?_
                refine lv_iload_n hx hb dX9_band_55 rfl (lv_at hl 3 rfl) ?_
                refine lv_iload hx hb dX9_band_56 (lv_at hl 4 rfl) ?_
                refine my_gpI (my_pV (As := [.int 0, .int 256, .int (nI k_6), .int (nI k_9)]) (rest := [.ref m0]) (ci := 9) ⟨hx, hb, hml, hown, hts⟩ (cwV 4 hts gX9_band_X9_visits rfl rfl rfl (by decide +kernel) ⟨Nat.le_of_ble_eq_true rfl, Nat.le_of_ble_eq_true rfl⟩) hN hK hP [0, 2] rfl 0 rfl rfl rfl rfl hl.1 rfl (Nat.le_of_ble_eq_true rfl) dX9_band_58 ⟨Nat.le_of_ble_eq_true rfl, Nat.le_of_ble_eq_true rfl⟩  (k_X9_visits_256 l D cI cJ cK m0 a_row a_tape a_number a_read a_readBits a_stands a_parted a_bitsWere a_stood a_chosen a_bestChosen a_often a_sorted a_risen a_risenWays (0 : Int32) 0 m_taped m_at m_to m_many m_readMany m_fewest m_size mf_12 0 k_6 k_9 (by first | assumption | omega | decide +kernel) (by first | assumption | omega | decide +kernel) (by first | assumption | omega | decide +kernel) (by first | assumption | omega | decide +kernel) (by first | assumption | omega | decide +kernel) (by first | assumption | omega | decide +kernel) (by first | assumption | omega | decide +kernel) (by first | assumption | omega | decide +kernel) (by first | assumption | omega | decide +kernel) (by first | assumption | omega | decide +kernel))) (fun r hp => ?_)
                obtain _ := hp
                obtain ⟨r_13, rfl⟩ : ∃ z, z = r := ⟨_, rfl⟩
                refine lv_i2l (v := r_13.toInt64) hx hb dX9_band_61 rfl ?_
                refine my_goVS (wc := (wl_k_X9_enters cI cJ cK m0 a_row a_tape a_number a_read a_readBits a_stands a_parted a_bitsWere a_stood a_chosen a_bestChosen a_often a_sorted a_risen a_risenWays 0 0 (nI m_taped) (nI m_at) (nI m_to) (nI m_many) (nI m_readMany) m_fewest (nI m_size) mr)) hP hD hS hA [0, 3] rfl [some 0, none, none, some 1] (by decide +kernel) (my_cV (As := [.long r_13.toInt64]) (rest := []) (ci := 9) (wc := (wl_k_X9_enters cI cJ cK m0 a_row a_tape a_number a_read a_readBits a_stands a_parted a_bitsWere a_stood a_chosen a_bestChosen a_often a_sorted a_risen a_risenWays 0 0 (nI m_taped) (nI m_at) (nI m_to) (nI m_many) (nI m_readMany) m_fewest (nI m_size) mr)) ⟨hx, hb, hml, hown, hts⟩ (cwV 1 hts gX9_band_X9_enters rfl rfl rfl (by decide +kernel) ⟨Nat.le_of_ble_eq_true rfl, Nat.le_of_ble_eq_true rfl⟩) hN hK hP hD [0, 3] rfl (by decide) rfl 0 rfl rfl rfl rfl hl.1 rfl (Nat.le_of_ble_eq_true rfl) dX9_band_62 ⟨Nat.le_of_ble_eq_true rfl, Nat.le_of_ble_eq_true rfl⟩  ((k_X9_enters l D cI cJ cK m0 a_row a_tape a_number a_read a_readBits a_stands a_parted a_bitsWere a_stood a_chosen a_bestChosen a_often a_sorted a_risen a_risenWays (0 : Int32) 0 m_taped m_at m_to m_many m_readMany m_fewest m_size mr r_13.toInt64 (by first | assumption | omega | decide +kernel) (by first | assumption | omega | decide +kernel) (by first | assumption | omega | decide +kernel) (by first | assumption | omega | decide +kernel) (by first | assumption | omega | decide +kernel) (by first | assumption | omega | decide +kernel) (by first | assumption | omega | decide +kernel) (by first | assumption | omega | decide +kernel)) _)) (fun u H locs hp hPD hS => ?_)
                obtain ⟨m_told_14, mr_15, rfl, hhz_m_told_16, ht_17⟩ := hp
                obtain ⟨hP, hD⟩ := hPD rfl
                have hP : va_P D vwCl (wl_k_X9_band cI cJ cK m0 a_row a_tape a_number a_read a_readBits a_stands a_parted a_bitsWere a_stood a_chosen a_bestChosen a_often a_sorted a_risen a_risenWays 0 (nI m_told_14) (nI m_taped) (nI m_at) (nI m_to) (nI m_many) (nI m_readMany) m_fewest (nI m_size) mn mf_12 mr_15) H := hP
                have hD : va_D A (wl_k_X9_band cI cJ cK m0 a_row a_tape a_number a_read a_readBits a_stands a_parted a_bitsWere a_stood a_chosen a_bestChosen a_often a_sorted a_risen a_risenWays 0 (nI m_told_14) (nI m_taped) (nI m_at) (nI m_to) (nI m_many) (nI m_readMany) m_fewest (nI m_size) mn mf_12 mr_15) := hD
                refine lv_aload_n hx hb dX9_band_65 rfl (lv_at hl 0 rfl) ?_
                refine lv_iconst (v := 0) hx hb dX9_band_66 (by decide +kernel) ?_
                refine lv_iload_n hx hb dX9_band_67 rfl (lv_at hl 3 rfl) ?_
                refine lv_iload hx hb dX9_band_68 (lv_at hl 4 rfl) ?_
                refine my_gpI (my_pV (As := [.int 0, .int (nI k_6), .int (nI k_9)]) (rest := []) (ci := 9) ⟨hx, hb, hml, hown, hts⟩ (cwV 3 hts gX9_band_X9_within rfl rfl rfl (by decide +kernel) ⟨Nat.le_of_ble_eq_true rfl, Nat.le_of_ble_eq_true rfl⟩) hN hK hP [0, 2] rfl 0 rfl rfl rfl rfl hl.1 rfl (Nat.le_of_ble_eq_true rfl) dX9_band_70 ⟨Nat.le_of_ble_eq_true rfl, Nat.le_of_ble_eq_true rfl⟩  (kw_X9_within l D cI cJ cK m0 a_row a_tape a_number a_read a_readBits a_stands a_parted a_bitsWere a_stood a_chosen a_bestChosen a_often a_sorted a_risen a_risenWays (0 : Int32) m_told_14 m_taped m_at m_to m_many m_readMany m_fewest m_size mf_12 k_6 k_9 (cnF mn a_1 b_2) (by first | assumption | omega | decide +kernel) (by first | assumption | omega | decide +kernel) (by first | assumption | omega | decide +kernel) (by first | assumption | omega | decide +kernel) (by first | assumption | omega | decide +kernel) (by first | assumption | omega | decide +kernel) (by first | assumption | omega | decide +kernel) (by first | assumption | omega | decide +kernel) (by first | assumption | omega | decide +kernel) (hcn0) (fun v => cnF_64 (by omega)))) (fun r hp => ?_)
                obtain ⟨t_18, rfl, hwt, hq_19⟩ := hp
                have hsI_l9 : (nI a_1).toInt = ((a_1 : Nat) : Int) := nI_toInt (by omega)
                have hsN_l9 : (nI a_1).toInt.toNat = a_1 := nIt (by omega)
                have hsI_r9 : (nI b_2).toInt = ((b_2 : Nat) : Int) := nI_toInt (by omega)
                have hsN_r9 : (nI b_2).toInt.toNat = b_2 := nIt (by omega)
                have hsI_a9 : (nI k_6).toInt = ((k_6 : Nat) : Int) := nI_toInt (by omega)
                have hsN_a9 : (nI k_6).toInt.toNat = k_6 := nIt (by omega)
                have hsI_b9 : (nI k_9).toInt = ((k_9 : Nat) : Int) := nI_toInt (by omega)
                have hsN_b9 : (nI k_9).toInt.toNat = k_9 := nIt (by omega)
                exact my_retI hx hb hr hlocks hK hS (wl_k_X9_band cI cJ cK m0 a_row a_tape a_number a_read a_readBits a_stands a_parted a_bitsWere a_stood a_chosen a_bestChosen a_often a_sorted a_risen a_risenWays 0 (nI m_told_14) (nI m_taped) (nI m_at) (nI m_to) (nI m_many) (nI m_readMany) m_fewest (nI m_size) mn mf_12 mr_15) hP hD (Or.inr (⟨t_18, 0, m_told_14, mf_12, mr_15, rfl, rfl, (by first | assumption | omega | trivial | decide +kernel), (by first | assumption | omega | trivial | decide +kernel), (by first | assumption | omega | trivial | decide +kernel), (by first | assumption | omega | trivial | decide +kernel), (by first | assumption | omega | trivial | decide +kernel), (by first | assumption | omega | trivial | decide +kernel), (by first | assumption | omega | trivial | decide +kernel), (by rw [hsN_l9, hsN_r9, hsN_a9, hsN_b9]; exact hwt), (by first | assumption | omega | trivial | decide +kernel)⟩)) dX9_band_73
              ·
                have d32 : ((k_6 : Nat) : Int) > ((k_9 : Nat) : Int) := my_nle c32 (nI_toInt (by omega)) (nI_toInt (by omega))
                refine lv_iconst (v := (-1)) hx hb dX9_band_35 (by decide +kernel) ?_
                have hsI_l9 : (nI a_1).toInt = ((a_1 : Nat) : Int) := nI_toInt (by omega)
                have hsN_l9 : (nI a_1).toInt.toNat = a_1 := nIt (by omega)
                have hsI_r9 : (nI b_2).toInt = ((b_2 : Nat) : Int) := nI_toInt (by omega)
                have hsN_r9 : (nI b_2).toInt.toNat = b_2 := nIt (by omega)
                have hsI_a9 : (nI k_6).toInt = ((k_6 : Nat) : Int) := nI_toInt (by omega)
                have hsN_a9 : (nI k_6).toInt.toNat = k_6 := nIt (by omega)
                have hsI_b9 : (nI k_9).toInt = ((k_9 : Nat) : Int) := nI_toInt (by omega)
                have hsN_b9 : (nI k_9).toInt.toNat = k_9 := nIt (by omega)
                exact my_retI hx hb hr hlocks hK hS (wl_k_X9_band cI cJ cK m0 a_row a_tape a_number a_read a_readBits a_stands a_parted a_bitsWere a_stood a_chosen a_bestChosen a_often a_sorted a_risen a_risenWays 0 (nI m_told) (nI m_taped) (nI m_at) (nI m_to) (nI m_many) (nI m_readMany) m_fewest (nI m_size) mn mf mr) hP hD (Or.inl ⟨0, rfl, rfl, (by first | assumption | omega | trivial | decide +kernel)⟩) dX9_band_36
          ·
            refine lv_if_eq (tgt := 35) hx hb dX9_band_26 (by decide) (fun c26 => ?_) (fun c26 => ?_)
            ·
              refine lv_iconst (v := (-1)) hx hb dX9_band_35 (by decide +kernel) ?_
              have hsI_l9 : (nI a_1).toInt = ((a_1 : Nat) : Int) := nI_toInt (by omega)
              have hsN_l9 : (nI a_1).toInt.toNat = a_1 := nIt (by omega)
              have hsI_r9 : (nI b_2).toInt = ((b_2 : Nat) : Int) := nI_toInt (by omega)
              have hsN_r9 : (nI b_2).toInt.toNat = b_2 := nIt (by omega)
              have hsI_a9 : (nI k_6).toInt = ((k_6 : Nat) : Int) := nI_toInt (by omega)
              have hsN_a9 : (nI k_6).toInt.toNat = k_6 := nIt (by omega)
              exact my_retI hx hb hr hlocks hK hS (wl_k_X9_band cI cJ cK m0 a_row a_tape a_number a_read a_readBits a_stands a_parted a_bitsWere a_stood a_chosen a_bestChosen a_often a_sorted a_risen a_risenWays 0 (nI m_told) (nI m_taped) (nI m_at) (nI m_to) (nI m_many) (nI m_readMany) m_fewest (nI m_size) mn mf mr) hP hD (Or.inl ⟨0, rfl, rfl, (by first | assumption | omega | trivial | decide +kernel)⟩) dX9_band_36
            ·
              exact absurd c26 (by decide +kernel)
      ·
        refine lv_if_eq (tgt := 35) hx hb dX9_band_18 (by decide) (fun c18 => ?_) (fun c18 => ?_)
        ·
          refine lv_iconst (v := (-1)) hx hb dX9_band_35 (by decide +kernel) ?_
          have hsI_l9 : (nI a_1).toInt = ((a_1 : Nat) : Int) := nI_toInt (by omega)
          have hsN_l9 : (nI a_1).toInt.toNat = a_1 := nIt (by omega)
          have hsI_r9 : (nI b_2).toInt = ((b_2 : Nat) : Int) := nI_toInt (by omega)
          have hsN_r9 : (nI b_2).toInt.toNat = b_2 := nIt (by omega)
          exact my_retI hx hb hr hlocks hK hS (wl_k_X9_band cI cJ cK m0 a_row a_tape a_number a_read a_readBits a_stands a_parted a_bitsWere a_stood a_chosen a_bestChosen a_often a_sorted a_risen a_risenWays 0 (nI m_told) (nI m_taped) (nI m_at) (nI m_to) (nI m_many) (nI m_readMany) m_fewest (nI m_size) mn mf mr) hP hD (Or.inl ⟨0, rfl, rfl, (by first | assumption | omega | trivial | decide +kernel)⟩) dX9_band_36
        ·
          exact absurd c18 (by decide +kernel)
  ·
    refine lv_if_eq (tgt := 35) hx hb dX9_band_11 (by decide) (fun c11 => ?_) (fun c11 => ?_)
    ·
      refine lv_iconst (v := (-1)) hx hb dX9_band_35 (by decide +kernel) ?_
      exact my_retI hx hb hr hlocks hK hS (wl_k_X9_band cI cJ cK m0 a_row a_tape a_number a_read a_readBits a_stands a_parted a_bitsWere a_stood a_chosen a_bestChosen a_often a_sorted a_risen a_risenWays 0 (nI m_told) (nI m_taped) (nI m_at) (nI m_to) (nI m_many) (nI m_readMany) m_fewest (nI m_size) mn mf mr) hP hD (Or.inl ⟨0, rfl, rfl, (by first | assumption | omega | trivial | decide +kernel)⟩) dX9_band_36
    ·
      exact absurd c11 (by decide +kernel)
abbrev wl_k_X9_below (cI cJ cK : ClassId) (m0 : Nat) (a_row : Nat) (a_tape : Nat) (a_number : Nat) (a_read : Nat) (a_readBits : Nat) (a_stands : Nat) (a_parted : Nat) (a_bitsWere : Nat) (a_stood : Nat) (a_chosen : Nat) (a_bestChosen : Nat) (a_often : Nat) (a_sorted : Nat) (a_risen : Nat) (a_risenWays : Nat) (v0_ : Int32) (v1_ : Int32) (v2_ : Int32) (v3_ : Int32) (v4_ : Int32) (v5_ : Int32) (v6_ : Int32) (v7_ : Int32) (v8_ : Int32) (v9_ : Nat → Int32) (v10_ : Nat → Int32) (v11_ : Nat → Int64) : va_W := [(m0, .inr (9, [.int v0_, .int v1_, .ref a_row, .ref a_tape, .int v2_, .int v3_, .int v4_, .int v5_, .ref a_number, .ref a_read, .int v6_, .ref a_readBits, .ref a_stands, .ref a_parted, .ref a_bitsWere, .ref a_stood, .ref a_chosen, .ref a_bestChosen, .int v7_, .ref a_often, .ref a_sorted, .int v8_, .ref a_risen, .ref a_risenWays])), (a_number, .inl (cI, 64, .inl v9_)), (a_often, .inl (cI, 512, .inl v10_)), (a_row, .inl (cJ, 64, .inr (.inl v11_)))]
set_option maxHeartbeats 4000000 in
set_option maxRecDepth 100000 in
theorem k_X9_below (l : Launch) (D : va_G) (cI cJ cK : ClassId) (m0 : Nat) (a_row : Nat) (a_tape : Nat) (a_number : Nat) (a_read : Nat) (a_readBits : Nat) (a_stands : Nat) (a_parted : Nat) (a_bitsWere : Nat) (a_stood : Nat) (a_chosen : Nat) (a_bestChosen : Nat) (a_often : Nat) (a_sorted : Nat) (a_risen : Nat) (a_risenWays : Nat) (m_thrown : Int32) (m_told : Nat) (m_taped : Nat) (m_at : Nat) (m_to : Nat) (m_many : Nat) (m_readMany : Nat) (m_fewest : Int32) (m_size : Nat) (mn : Nat → Int32) (mf : Nat → Int32) (mr : Nat → Int64) (l9 : Int32) (r9 : Int32) (v9 : Int32) (hz_m_told : m_told ≤ 64) (hz_m_taped : m_taped ≤ 100) (hz_m_at : m_at ≤ 100) (hz_m_to : m_to ≤ 100) (hz_m_many : m_many ≤ 64) (hz_m_readMany : m_readMany ≤ 64) (hz_m_size : m_size ≤ 64) (hR_mn : RB 0 255 mn) : ctI l yX9_below wsX9_below ({ frames := 1, cells := 0, slots := 0, locals := 60 } : Room) D (tyIJ cI cJ cK) [.ref m0, .int l9, .int r9, .int v9] (wl_k_X9_below cI cJ cK m0 a_row a_tape a_number a_read a_readBits a_stands a_parted a_bitsWere a_stood a_chosen a_bestChosen a_often a_sorted a_risen a_risenWays m_thrown (nI m_told) (nI m_taped) (nI m_at) (nI m_to) (nI m_many) (nI m_readMany) m_fewest (nI m_size) mn mf mr) (fun (r : Int32) (u : va_W) => (∃ (m_thrown' : Int32), u = (wl_k_X9_below cI cJ cK m0 a_row a_tape a_number a_read a_readBits a_stands a_parted a_bitsWere a_stood a_chosen a_bestChosen a_often a_sorted a_risen a_risenWays m_thrown' (nI m_told) (nI m_taped) (nI m_at) (nI m_to) (nI m_many) (nI m_readMany) m_fewest (nI m_size) mn mf mr) ∧ r = (-1) ∧ (l9.toInt < 0 ∨ r9.toInt < l9.toInt ∨ m_many < r9.toInt ∨ v9.toInt < 1 ∨ 256 < v9.toInt)) ∨ (∃ (m_thrown' : Int32) (m_told' : Nat) (mf' : Nat → Int32) (mr' : Nat → Int64), u = (wl_k_X9_below cI cJ cK m0 a_row a_tape a_number a_read a_readBits a_stands a_parted a_bitsWere a_stood a_chosen a_bestChosen a_often a_sorted a_risen a_risenWays m_thrown' (nI m_told') (nI m_taped) (nI m_at) (nI m_to) (nI m_many) (nI m_readMany) m_fewest (nI m_size) mn mf' mr') ∧ r = (-2) ∧ m_told' ≤ 64 ∧ 0 ≤ l9.toInt ∧ l9.toInt ≤ r9.toInt ∧ r9.toInt ≤ m_many ∧ blN (cnF mn l9.toInt.toNat r9.toInt.toNat) v9.toInt ∧ 1 ≤ v9.toInt ∧ v9.toInt ≤ 256 ∧ m_told' = m_told) ∨ (∃ (m_thrown' : Int32) (m_told' : Nat) (mf' : Nat → Int32) (mr' : Nat → Int64), u = (wl_k_X9_below cI cJ cK m0 a_row a_tape a_number a_read a_readBits a_stands a_parted a_bitsWere a_stood a_chosen a_bestChosen a_often a_sorted a_risen a_risenWays m_thrown' (nI m_told') (nI m_taped) (nI m_at) (nI m_to) (nI m_many) (nI m_readMany) m_fewest (nI m_size) mn mf' mr') ∧ m_told' ≤ 64 ∧ 0 ≤ l9.toInt ∧ l9.toInt ≤ r9.toInt ∧ r9.toInt ≤ m_many ∧ blP (cnF mn l9.toInt.toNat r9.toInt.toNat) v9.toInt r ∧ 1 ≤ v9.toInt ∧ v9.toInt ≤ 256 ∧ m_told' = 1)) := by
  refine ctI.of (cc := cX9_below) (maxL := 5) (ret := (some .int)) (by decide) rfl (Nat.le_of_ble_eq_true rfl) ?_
  intro p e s m below meth c ls A hx hb hr hts hown hml hlocks hname hA hK hN hP hD hS hl
  have hl : lv_has ls 5 [(0, .ref m0), (1, .int l9), (2, .int r9), (3, .int v9)] := hl
  have hown : s.vm.findClass RX9 = some m.cls := hown
  have hi9 : ∀ w ∈ u_ws RX9 TX9 24, w ∈ wsX9_below := by decide +kernel
  have fl1 := hts (.fieldLink RX9 1 "PlaneColumnModel" "thrown" "I") (by decide +kernel)
  have fl11 := hts (.fieldLink RX9 11 "PlaneColumnModel" "told" "I") (by decide +kernel)
  refine lv_aload_n hx hb dX9_below_0 rfl (lv_at hl 0 rfl) ?_
  refine lv_iconst (v := 0) hx hb dX9_below_1 (by decide +kernel) ?_
  refine va_put (ci := 9) (v := .int 0) (ty := (.int)) (C := RX9) (T := TX9) (N := 24) hx hb hts hi9 tyX9 tyX9_ok nmX9 hown hK hP hD hS 0 rfl rfl 0 (by decide) fl1 (fun _ h9 => h9) rfl (by decide +kernel) rfl rfl (Nat.le_of_ble_eq_true rfl) dX9_below_2 (fun H locs hP hD hS => ?_)
  have hP : va_P D vwCl (wl_k_X9_below cI cJ cK m0 a_row a_tape a_number a_read a_readBits a_stands a_parted a_bitsWere a_stood a_chosen a_bestChosen a_often a_sorted a_risen a_risenWays 0 (nI m_told) (nI m_taped) (nI m_at) (nI m_to) (nI m_many) (nI m_readMany) m_fewest (nI m_size) mn mf mr) H := hP
  have hD : va_D A (wl_k_X9_below cI cJ cK m0 a_row a_tape a_number a_read a_readBits a_stands a_parted a_bitsWere a_stood a_chosen a_bestChosen a_often a_sorted a_risen a_risenWays 0 (nI m_told) (nI m_taped) (nI m_at) (nI m_to) (nI m_many) (nI m_readMany) m_fewest (nI m_size) mn mf mr) := hD
  refine lv_aload_n hx hb dX9_below_5 rfl (lv_at hl 0 rfl) ?_
  refine lv_iload_n hx hb dX9_below_6 rfl (lv_at hl 1 rfl) ?_
  refine lv_iload_n hx hb dX9_below_7 rfl (lv_at hl 2 rfl) ?_
  refine my_gpI (my_pV (As := [.int l9, .int r9]) (rest := []) (ci := 9) ⟨hx, hb, hml, hown, hts⟩ (cwV 2 hts gX9_below_X9_isSpan rfl rfl rfl (by decide +kernel) ⟨Nat.le_of_ble_eq_true rfl, Nat.le_of_ble_eq_true rfl⟩) hN hK hP [0] rfl 0 rfl rfl rfl rfl hl.1 rfl (Nat.le_of_ble_eq_true rfl) dX9_below_8 ⟨Nat.le_of_ble_eq_true rfl, Nat.le_of_ble_eq_true rfl⟩  (k_X9_isSpan l D cI cJ cK m0 a_row a_tape a_number a_read a_readBits a_stands a_parted a_bitsWere a_stood a_chosen a_bestChosen a_often a_sorted a_risen a_risenWays (0 : Int32) m_told m_taped m_at m_to m_many m_readMany m_fewest m_size l9 r9 (by first | assumption | omega | decide +kernel) (by first | assumption | omega | decide +kernel) (by first | assumption | omega | decide +kernel) (by first | assumption | omega | decide +kernel) (by first | assumption | omega | decide +kernel) (by first | assumption | omega | decide +kernel) (by first | assumption | omega | decide +kernel))) (fun r hp => ?_)
  rcases hp with ⟨a_1, b_2, rfl, rfl, rfl, ha_3, hb_4⟩ | ⟨rfl, ho_5⟩
  ·
    refine lv_if_eq (tgt := 26) hx hb dX9_below_11 (by decide) (fun c11 => ?_) (fun c11 => ?_)
    ·
      exact absurd c11 (by decide +kernel)
    ·
      refine lv_iload_n hx hb dX9_below_14 rfl (lv_at hl 3 rfl) ?_
      refine lv_i2l (v := v9.toInt64) hx hb dX9_below_15 rfl ?_
      refine lv_lconst (v := 1) hx hb dX9_below_16 (by decide +kernel) ?_
      refine lv_ldc2 (v := 256) hx hb hown (hts (.constantLong RX9 196 (256)) (by decide +kernel)) dX9_below_17 ?_
      refine my_gpI (my_pS (As := [.long v9.toInt64, .long 1, .long 256]) (rest := []) ⟨hx, hb, hml, hown, hts⟩ (va_cwS 3 hts gX9_below_X9_in rfl rfl rfl (by decide +kernel) ⟨Nat.le_of_ble_eq_true rfl, Nat.le_of_ble_eq_true rfl⟩) hN hK hP [] rfl rfl hl.1 rfl (Nat.le_of_ble_eq_true rfl) dX9_below_20 ⟨Nat.le_of_ble_eq_true rfl, Nat.le_of_ble_eq_true rfl⟩  (k_X9_in l D cI cJ cK v9.toInt64 (1 : Int64) (256 : Int64) v9.toInt (Int32.toInt_toInt64 _) (1 : Int) (by decide +kernel) (256 : Int) (by decide +kernel))) (fun r hp => ?_)
      rcases hp with ⟨rfl, ha_6, hb_7⟩ | ⟨rfl, ho_8⟩
      ·
        refine lv_if_ne (tgt := 28) hx hb dX9_below_23 (by decide) (fun c23 => ?_) (fun c23 => ?_)
        ·
          refine lv_aload_n hx hb dX9_below_28 rfl (lv_at hl 0 rfl) ?_
          refine lv_iconst (v := 0) hx hb dX9_below_29 (by decide +kernel) ?_
          refine lv_iload_n hx hb dX9_below_30 rfl (lv_at hl 1 rfl) ?_
          refine lv_iload_n hx hb dX9_below_31 rfl (lv_at hl 2 rfl) ?_
          refine my_goVS (wc := (wl_k0_X9_counts cI cJ cK m0 a_row a_tape a_number a_read a_readBits a_stands a_parted a_bitsWere a_stood a_chosen a_bestChosen a_often a_sorted a_risen a_risenWays 0 (nI m_told) (nI m_taped) (nI m_at) (nI m_to) (nI m_many) (nI m_readMany) m_fewest (nI m_size) mn mf)) hP hD hS hA [0, 1, 2] rfl [some 0, some 1, some 2] (by decide +kernel) (my_cV (As := [.int 0, .int (nI a_1), .int (nI b_2)]) (rest := []) (ci := 9) (wc := (wl_k0_X9_counts cI cJ cK m0 a_row a_tape a_number a_read a_readBits a_stands a_parted a_bitsWere a_stood a_chosen a_bestChosen a_often a_sorted a_risen a_risenWays 0 (nI m_told) (nI m_taped) (nI m_at) (nI m_to) (nI m_many) (nI m_readMany) m_fewest (nI m_size) mn mf)) ⟨hx, hb, hml, hown, hts⟩ (cwV 3 hts gX9_below_X9_counts rfl rfl rfl (by decide +kernel) ⟨Nat.le_of_ble_eq_true rfl, Nat.le_of_ble_eq_true rfl⟩) hN hK hP hD [0, 1, 2] rfl (by decide) rfl 0 rfl rfl rfl rfl hl.1 rfl (Nat.le_of_ble_eq_true rfl) dX9_below_32 ⟨Nat.le_of_ble_eq_true rfl, Nat.le_of_ble_eq_true rfl⟩  ((k0_X9_counts l D cI cJ cK m0 a_row a_tape a_number a_read a_readBits a_stands a_parted a_bitsWere a_stood a_chosen a_bestChosen a_often a_sorted a_risen a_risenWays (0 : Int32) m_told m_taped m_at m_to m_many m_readMany m_fewest m_size mn mf a_1 b_2 (by first | assumption | omega | decide +kernel) (by first | assumption | omega | decide +kernel) (by first | assumption | omega | decide +kernel) (by first | assumption | omega | decide +kernel) (by first | assumption | omega | decide +kernel) (by first | assumption | omega | decide +kernel) (by first | assumption | omega | decide +kernel) hR_mn (by first | assumption | omega | decide +kernel) (by first | assumption | omega | decide +kernel)) _)) (fun u H locs hp hPD hS => ?_)
          obtain ⟨mf_9, rfl, hcn0, hco0⟩ := hp
          obtain ⟨hP, hD⟩ := hPD rfl
          have hP : va_P D vwCl (wl_k_X9_below cI cJ cK m0 a_row a_tape a_number a_read a_readBits a_stands a_parted a_bitsWere a_stood a_chosen a_bestChosen a_often a_sorted a_risen a_risenWays 0 (nI m_told) (nI m_taped) (nI m_at) (nI m_to) (nI m_many) (nI m_readMany) m_fewest (nI m_size) mn mf_9 mr) H := hP
          have hD : va_D A (wl_k_X9_below cI cJ cK m0 a_row a_tape a_number a_read a_readBits a_stands a_parted a_bitsWere a_stood a_chosen a_bestChosen a_often a_sorted a_risen a_risenWays 0 (nI m_told) (nI m_taped) (nI m_at) (nI m_to) (nI m_many) (nI m_readMany) m_fewest (nI m_size) mn mf_9 mr) := hD
          refine lv_iload_n hx hb dX9_below_35 rfl (lv_at hl 3 rfl) ?_
          refine lv_iconst (v := 1) hx hb dX9_below_36 (by decide +kernel) ?_
          refine lv_isub hx hb dX9_below_37 ?_
          refine lv_topi (fun z_10 ez_10 => ?_)
          try have tz_10 : z_10.toInt = v9.toInt - (1 : Int) := by rw [ez_10]; exact my_subI rfl (by decide +kernel) (by omega) (by omega)
          refine lv_istore (lv' := [(4, .int z_10), (0, .ref m0), (1, .int (nI a_1)), (2, .int (nI b_2)), (3, .int v9)]) hx hb dX9_below_38 hl (by decide) rfl (fun ls hl => ?_)
          have loop40 : ∀ (n9 : Nat) (x : Int32), (x.toInt + 1).toNat < n9 → (-1 ≤ x.toInt) → (x.toInt ≤ 255) → (x.toInt < v9.toInt) → (∀ u : Nat, x.toInt < (u : Int) → (u : Int) < v9.toInt → (cnF mn a_1 b_2) u = 0) → ∀ (H : Heap) (locs : List Loc) (ls : Array Slot), va_P D vwCl (wl_k_X9_below cI cJ cK m0 a_row a_tape a_number a_read a_readBits a_stands a_parted a_bitsWere a_stood a_chosen a_bestChosen a_often a_sorted a_risen a_risenWays 0 (nI m_told) (nI m_taped) (nI m_at) (nI m_to) (nI m_many) (nI m_readMany) m_fewest (nI m_size) mn mf_9 mr) H → va_D A (wl_k_X9_below cI cJ cK m0 a_row a_tape a_number a_read a_readBits a_stands a_parted a_bitsWere a_stood a_chosen a_bestChosen a_often a_sorted a_risen a_risenWays 0 (nI m_told) (nI m_taped) (nI m_at) (nI m_to) (nI m_many) (nI m_readMany) m_fewest (nI m_size) mn mf_9 mr) → va_S A s.heap H locs → lv_has ls 5 [(4, .int x), (0, .ref m0), (1, .int (nI a_1)), (2, .int (nI b_2)), (3, .int v9)] → W p l e ({ frames := 1, cells := 0, slots := 0, locals := 60 } : Room) s m [.ref m0, .int (nI a_1), .int (nI b_2), .int v9].toArray below meth c H locs 0 0 (MQ below (va_Qi (fun (r : Int32) (u : va_W) => (∃ (m_thrown' : Int32), u = (wl_k_X9_below cI cJ cK m0 a_row a_tape a_number a_read a_readBits a_stands a_parted a_bitsWere a_stood a_chosen a_bestChosen a_often a_sorted a_risen a_risenWays m_thrown' (nI m_told) (nI m_taped) (nI m_at) (nI m_to) (nI m_many) (nI m_readMany) m_fewest (nI m_size) mn mf mr) ∧ r = (-1) ∧ ((nI a_1).toInt < 0 ∨ (nI b_2).toInt < (nI a_1).toInt ∨ m_many < (nI b_2).toInt ∨ v9.toInt < 1 ∨ 256 < v9.toInt)) ∨ (∃ (m_thrown' : Int32) (m_told' : Nat) (mf' : Nat → Int32) (mr' : Nat → Int64), u = (wl_k_X9_below cI cJ cK m0 a_row a_tape a_number a_read a_readBits a_stands a_parted a_bitsWere a_stood a_chosen a_bestChosen a_often a_sorted a_risen a_risenWays m_thrown' (nI m_told') (nI m_taped) (nI m_at) (nI m_to) (nI m_many) (nI m_readMany) m_fewest (nI m_size) mn mf' mr') ∧ r = (-2) ∧ m_told' ≤ 64 ∧ 0 ≤ (nI a_1).toInt ∧ (nI a_1).toInt ≤ (nI b_2).toInt ∧ (nI b_2).toInt ≤ m_many ∧ blN (cnF mn (nI a_1).toInt.toNat (nI b_2).toInt.toNat) v9.toInt ∧ 1 ≤ v9.toInt ∧ v9.toInt ≤ 256 ∧ m_told' = m_told) ∨ (∃ (m_thrown' : Int32) (m_told' : Nat) (mf' : Nat → Int32) (mr' : Nat → Int64), u = (wl_k_X9_below cI cJ cK m0 a_row a_tape a_number a_read a_readBits a_stands a_parted a_bitsWere a_stood a_chosen a_bestChosen a_often a_sorted a_risen a_risenWays m_thrown' (nI m_told') (nI m_taped) (nI m_at) (nI m_to) (nI m_many) (nI m_readMany) m_fewest (nI m_size) mn mf' mr') ∧ m_told' ≤ 64 ∧ 0 ≤ (nI a_1).toInt ∧ (nI a_1).toInt ≤ (nI b_2).toInt ∧ (nI b_2).toInt ≤ m_many ∧ blP (cnF mn (nI a_1).toInt.toNat (nI b_2).toInt.toNat) v9.toInt r ∧ 1 ≤ v9.toInt ∧ v9.toInt ≤ 256 ∧ m_told' = 1)) (my_B D (tyIJ cI cJ cK) A) A) [.ref m0, .int (nI a_1), .int (nI b_2), .int v9].toArray s 0 0 A) (F0 m 40 ls []) := by
            intro n9
            induction n9 with
            | zero =>
              intro x hn9
              exact absurd hn9 (Nat.not_lt_zero _)
            | succ n9 ih40 =>
              intro x hn9 hx0 hx1 hxv hbl9 H locs ls hP hD hS hl
              refine lv_iload hx hb dX9_below_40 (lv_at hl 0 rfl) ?_
              refine lv_if_lt (tgt := 81) hx hb dX9_below_42 (by decide) (fun c42 => ?_) (fun c42 => ?_)
              ·
                have d42 : x.toInt < (0 : Int) := my_lt c42 rfl (by decide +kernel)
                refine lv_bipush (v := (-2)) hx hb dX9_below_81 (by decide +kernel) ?_
                have hsI_l9 : (nI a_1).toInt = ((a_1 : Nat) : Int) := nI_toInt (by omega)
                have hsN_l9 : (nI a_1).toInt.toNat = a_1 := nIt (by omega)
                have hsI_r9 : (nI b_2).toInt = ((b_2 : Nat) : Int) := nI_toInt (by omega)
                have hsN_r9 : (nI b_2).toInt.toNat = b_2 := nIt (by omega)
                exact my_retI hx hb hr hlocks hK hS (wl_k_X9_below cI cJ cK m0 a_row a_tape a_number a_read a_readBits a_stands a_parted a_bitsWere a_stood a_chosen a_bestChosen a_often a_sorted a_risen a_risenWays 0 (nI m_told) (nI m_taped) (nI m_at) (nI m_to) (nI m_many) (nI m_readMany) m_fewest (nI m_size) mn mf_9 mr) hP hD (Or.inr (Or.inl ⟨0, m_told, mf_9, mr, rfl, rfl, (by first | assumption | omega | trivial | decide +kernel), (by first | assumption | omega | trivial | decide +kernel), (by first | assumption | omega | trivial | decide +kernel), (by first | assumption | omega | trivial | decide +kernel), (by rw [hsN_l9, hsN_r9]; exact bl_nmk (by omega) hbl9), (by first | assumption | omega | trivial | decide +kernel), (by first | assumption | omega | trivial | decide +kernel), (by first | assumption | omega | trivial | decide +kernel)⟩)) dX9_below_83
              ·
                have d42 : x.toInt ≥ (0 : Int) := my_nlt c42 rfl (by decide +kernel)
                refine lv_aload_n hx hb dX9_below_45 rfl (lv_at hl 1 rfl) ?_
                refine lv_iconst (v := 0) hx hb dX9_below_46 (by decide +kernel) ?_
                refine lv_iload hx hb dX9_below_47 (lv_at hl 0 rfl) ?_
                obtain ⟨w_11, ew_11, hw_11⟩ : ∃ w : Nat, x = nI w ∧ (w : Int) = (x : Int32).toInt := my_natE (by omega)
                refine my_eqi (y := nI w_11) ew_11 ?_
                refine my_gpI (my_pV (As := [.int 0, .int (nI w_11)]) (rest := []) (ci := 9) ⟨hx, hb, hml, hown, hts⟩ (cwV 2 hts gX9_below_X9_times rfl rfl rfl (by decide +kernel) ⟨Nat.le_of_ble_eq_true rfl, Nat.le_of_ble_eq_true rfl⟩) hN hK hP [0, 2] rfl 0 rfl rfl rfl rfl hl.1 rfl (Nat.le_of_ble_eq_true rfl) dX9_below_49 ⟨Nat.le_of_ble_eq_true rfl, Nat.le_of_ble_eq_true rfl⟩  (kt_X9_times l D cI cJ cK m0 a_row a_tape a_number a_read a_readBits a_stands a_parted a_bitsWere a_stood a_chosen a_bestChosen a_often a_sorted a_risen a_risenWays (0 : Int32) m_told m_taped m_at m_to m_many m_readMany m_fewest m_size mf_9 w_11 (cnF mn a_1 b_2) (by first | assumption | omega | decide +kernel) (by first | assumption | omega | decide +kernel) (by first | assumption | omega | decide +kernel) (by first | assumption | omega | decide +kernel) (by first | assumption | omega | decide +kernel) (by first | assumption | omega | decide +kernel) (by first | assumption | omega | decide +kernel) (by first | assumption | omega | decide +kernel) (hcn0) (cnF_64 (by omega)))) (fun r hp => ?_)
                obtain ⟨t_12, rfl, htm, hq_13⟩ := hp
                refine lv_if_le (tgt := 75) hx hb dX9_below_52 (by decide) (fun c52 => ?_) (fun c52 => ?_)
                ·
                  have d52 : ((t_12 : Nat) : Int) ≤ (0 : Int) := my_le c52 (nI_toInt (by omega)) (by decide +kernel)
                  obtain ⟨z_14, ez_14⟩ : ∃ y : Int32, y = x + (-1) := ⟨_, rfl⟩
                  try have tz_14 : z_14.toInt = x.toInt + (-1) := by rw [ez_14]; exact my_addI rfl (by decide +kernel) (by omega) (by omega)
                  refine lv_iinc (v := z_14) (lv' := [(4, .int z_14), (0, .ref m0), (1, .int (nI a_1)), (2, .int (nI b_2)), (3, .int v9)]) hx hb dX9_below_75 hl (k := 0) rfl (by rw [ez_14]; rfl) (by decide) rfl (fun ls hl => ?_)
                  refine lv_goto (tgt := 40) hx hb dX9_below_78 (by decide) ?_
                  exact ih40  z_14 (by omega) (by first | assumption | omega | decide +kernel) (by first | assumption | omega | decide +kernel) (by first | assumption | omega | decide +kernel) (bl_back hbl9 (by assumption) htm (by omega) (by omega)) _ _ ls hP hD hS (lv_sub hl [0, 1, 2, 3, 4] rfl)
                ·
                  have d52 : ((t_12 : Nat) : Int) > (0 : Int) := my_nle c52 (nI_toInt (by omega)) (by decide +kernel)
                  have hfd := bl_ne (x := x.toInt) (by assumption) htm (by omega)
                  refine lv_aload_n hx hb dX9_below_55 rfl (lv_at hl 1 rfl) ?_
                  refine lv_iconst (v := 0) hx hb dX9_below_56 (by decide +kernel) ?_
                  refine va_put (ci := 9) (v := .int 0) (ty := (.int)) (C := RX9) (T := TX9) (N := 24) hx hb hts hi9 tyX9 tyX9_ok nmX9 hown hK hP hD hS 0 rfl rfl 1 (by decide) fl11 (fun _ h9 => h9) rfl (by decide +kernel) rfl rfl (Nat.le_of_ble_eq_true rfl) dX9_below_57 (fun H locs hP hD hS => ?_)
                  have hP : va_P D vwCl (wl_k_X9_below cI cJ cK m0 a_row a_tape a_number a_read a_readBits a_stands a_parted a_bitsWere a_stood a_chosen a_bestChosen a_often a_sorted a_risen a_risenWays 0 0 (nI m_taped) (nI m_at) (nI m_to) (nI m_many) (nI m_readMany) m_fewest (nI m_size) mn mf_9 mr) H := hP
                  have hD : va_D A (wl_k_X9_below cI cJ cK m0 a_row a_tape a_number a_read a_readBits a_stands a_parted a_bitsWere a_stood a_chosen a_bestChosen a_often a_sorted a_risen a_risenWays 0 0 (nI m_taped) (nI m_at) (nI m_to) (nI m_many) (nI m_readMany) m_fewest (nI m_size) mn mf_9 mr) := hD
                  refine lv_aload_n hx hb dX9_below_60 rfl (lv_at hl 1 rfl) ?_
                  refine lv_aload_n hx hb dX9_below_61 rfl (lv_at hl 1 rfl) ?_
                  refine lv_iconst (v := 0) hx hb dX9_below_62 (by decide +kernel) ?_
                  refine lv_iload hx hb dX9_below_63 (lv_at hl 0 rfl) ?_
                  obtain ⟨w_15, ew_15, hw_15⟩ : ∃ w : Nat, x = nI w ∧ (w : Int) = (x : Int32).toInt := my_natE (by omega)
                  refine my_eqi (y := nI w_15) ew_15 ?_
                  refine my_gpI (my_pV (As := [.int 0, .int (nI w_15)]) (rest := [.ref m0]) (ci := 9) ⟨hx, hb, hml, hown, hts⟩ (cwV 2 hts gX9_below_X9_times rfl rfl rfl (by decide +kernel) ⟨Nat.le_of_ble_eq_true rfl, Nat.le_of_ble_eq_true rfl⟩) hN hK hP [0, 2] rfl 0 rfl rfl rfl rfl hl.1 rfl (Nat.le_of_ble_eq_true rfl) dX9_below_65 ⟨Nat.le_of_ble_eq_true rfl, Nat.le_of_ble_eq_true rfl⟩  (kt_X9_times l D cI cJ cK m0 a_row a_tape a_number a_read a_readBits a_stands a_parted a_bitsWere a_stood a_chosen a_bestChosen a_often a_sorted a_risen a_risenWays (0 : Int32) 0 m_taped m_at m_to m_many m_readMany m_fewest m_size mf_9 w_15 (cnF mn a_1 b_2) (by first | assumption | omega | decide +kernel) (by first | assumption | omega | decide +kernel) (by first | assumption | omega | decide +kernel) (by first | assumption | omega | decide +kernel) (by first | assumption | omega | decide +kernel) (by first | assumption | omega | decide +kernel) (by first | assumption | omega | decide +kernel) (by first | assumption | omega | decide +kernel) (hcn0) (cnF_64 (by omega)))) (fun r hp => ?_)
                  obtain ⟨t_16, rfl, htm, hq_17⟩ := hp
                  refine lv_i2l (v := lN t_16) hx hb dX9_below_68 (nI_l (by omega)) ?_
                  refine my_goVS (wc := (wl_k_X9_enters cI cJ cK m0 a_row a_tape a_number a_read a_readBits a_stands a_parted a_bitsWere a_stood a_chosen a_bestChosen a_often a_sorted a_risen a_risenWays 0 0 (nI m_taped) (nI m_at) (nI m_to) (nI m_many) (nI m_readMany) m_fewest (nI m_size) mr)) hP hD hS hA [0, 3] rfl [some 0, none, none, some 1] (by decide +kernel) (my_cV (As := [.long (lN t_16)]) (rest := []) (ci := 9) (wc := (wl_k_X9_enters cI cJ cK m0 a_row a_tape a_number a_read a_readBits a_stands a_parted a_bitsWere a_stood a_chosen a_bestChosen a_often a_sorted a_risen a_risenWays 0 0 (nI m_taped) (nI m_at) (nI m_to) (nI m_many) (nI m_readMany) m_fewest (nI m_size) mr)) ⟨hx, hb, hml, hown, hts⟩ (cwV 1 hts gX9_below_X9_enters rfl rfl rfl (by decide +kernel) ⟨Nat.le_of_ble_eq_true rfl, Nat.le_of_ble_eq_true rfl⟩) hN hK hP hD [0, 3] rfl (by decide) rfl 0 rfl rfl rfl rfl hl.1 rfl (Nat.le_of_ble_eq_true rfl) dX9_below_69 ⟨Nat.le_of_ble_eq_true rfl, Nat.le_of_ble_eq_true rfl⟩  ((k_X9_enters l D cI cJ cK m0 a_row a_tape a_number a_read a_readBits a_stands a_parted a_bitsWere a_stood a_chosen a_bestChosen a_often a_sorted a_risen a_risenWays (0 : Int32) 0 m_taped m_at m_to m_many m_readMany m_fewest m_size mr (lN t_16) (by first | assumption | omega | decide +kernel) (by first | assumption | omega | decide +kernel) (by first | assumption | omega | decide +kernel) (by first | assumption | omega | decide +kernel) (by first | assumption | omega | decide +kernel) (by first | assumption | omega | decide +kernel) (by first | assumption | omega | decide +kernel) (by first | assumption | omega | decide +kernel)) _)) (fun u H locs hp hPD hS => ?_)
                  obtain ⟨m_told_18, mr_19, rfl, hhz_m_told_20, ht_21⟩ := hp
                  obtain ⟨hP, hD⟩ := hPD rfl
                  have hP : va_P D vwCl (wl_k_X9_below cI cJ cK m0 a_row a_tape a_number a_read a_readBits a_stands a_parted a_bitsWere a_stood a_chosen a_bestChosen a_often a_sorted a_risen a_risenWays 0 (nI m_told_18) (nI m_taped) (nI m_at) (nI m_to) (nI m_many) (nI m_readMany) m_fewest (nI m_size) mn mf_9 mr_19) H := hP
                  have hD : va_D A (wl_k_X9_below cI cJ cK m0 a_row a_tape a_number a_read a_readBits a_stands a_parted a_bitsWere a_stood a_chosen a_bestChosen a_often a_sorted a_risen a_risenWays 0 (nI m_told_18) (nI m_taped) (nI m_at) (nI m_to) (nI m_many) (nI m_readMany) m_fewest (nI m_size) mn mf_9 mr_19) := hD
                  refine lv_iload hx hb dX9_below_72 (lv_at hl 0 rfl) ?_
                  have hsI_l9 : (nI a_1).toInt = ((a_1 : Nat) : Int) := nI_toInt (by omega)
                  have hsN_l9 : (nI a_1).toInt.toNat = a_1 := nIt (by omega)
                  have hsI_r9 : (nI b_2).toInt = ((b_2 : Nat) : Int) := nI_toInt (by omega)
                  have hsN_r9 : (nI b_2).toInt.toNat = b_2 := nIt (by omega)
                  exact my_retI hx hb hr hlocks hK hS (wl_k_X9_below cI cJ cK m0 a_row a_tape a_number a_read a_readBits a_stands a_parted a_bitsWere a_stood a_chosen a_bestChosen a_often a_sorted a_risen a_risenWays 0 (nI m_told_18) (nI m_taped) (nI m_at) (nI m_to) (nI m_many) (nI m_readMany) m_fewest (nI m_size) mn mf_9 mr_19) hP hD (Or.inr (Or.inr (⟨0, m_told_18, mf_9, mr_19, rfl, (by first | assumption | omega | trivial | decide +kernel), (by first | assumption | omega | trivial | decide +kernel), (by first | assumption | omega | trivial | decide +kernel), (by first | assumption | omega | trivial | decide +kernel), (by rw [hsN_l9, hsN_r9]; exact bl_mk (by omega) (by omega) hfd hbl9), (by first | assumption | omega | trivial | decide +kernel), (by first | assumption | omega | trivial | decide +kernel), (by first | assumption | omega | trivial | decide +kernel)⟩))) dX9_below_74
          exact loop40 (((z_10.toInt + 1).toNat) + 1) z_10 (Nat.lt_succ_self _) (by first | assumption | omega | decide +kernel) (by first | assumption | omega | decide +kernel) (by first | assumption | omega | decide +kernel) (fun u h1 h2 => absurd h1 (by omega)) _ _ ls hP hD hS (lv_sub hl [0, 1, 2, 3, 4] rfl)
        ·
          exact absurd c23 (by decide +kernel)
      ·
        refine lv_if_ne (tgt := 28) hx hb dX9_below_23 (by decide) (fun c23 => ?_) (fun c23 => ?_)
        ·
          exact absurd c23 (by decide +kernel)
        ·
          refine lv_iconst (v := (-1)) hx hb dX9_below_26 (by decide +kernel) ?_
          have hsI_l9 : (nI a_1).toInt = ((a_1 : Nat) : Int) := nI_toInt (by omega)
          have hsN_l9 : (nI a_1).toInt.toNat = a_1 := nIt (by omega)
          have hsI_r9 : (nI b_2).toInt = ((b_2 : Nat) : Int) := nI_toInt (by omega)
          have hsN_r9 : (nI b_2).toInt.toNat = b_2 := nIt (by omega)
          exact my_retI hx hb hr hlocks hK hS (wl_k_X9_below cI cJ cK m0 a_row a_tape a_number a_read a_readBits a_stands a_parted a_bitsWere a_stood a_chosen a_bestChosen a_often a_sorted a_risen a_risenWays 0 (nI m_told) (nI m_taped) (nI m_at) (nI m_to) (nI m_many) (nI m_readMany) m_fewest (nI m_size) mn mf mr) hP hD (Or.inl ⟨0, rfl, rfl, (by first | assumption | omega | trivial | decide +kernel)⟩) dX9_below_27
  ·
    refine lv_if_eq (tgt := 26) hx hb dX9_below_11 (by decide) (fun c11 => ?_) (fun c11 => ?_)
    ·
      refine lv_iconst (v := (-1)) hx hb dX9_below_26 (by decide +kernel) ?_
      exact my_retI hx hb hr hlocks hK hS (wl_k_X9_below cI cJ cK m0 a_row a_tape a_number a_read a_readBits a_stands a_parted a_bitsWere a_stood a_chosen a_bestChosen a_often a_sorted a_risen a_risenWays 0 (nI m_told) (nI m_taped) (nI m_at) (nI m_to) (nI m_many) (nI m_readMany) m_fewest (nI m_size) mn mf mr) hP hD (Or.inl ⟨0, rfl, rfl, (by first | assumption | omega | trivial | decide +kernel)⟩) dX9_below_27
    ·
      exact absurd c11 (by decide +kernel)
abbrev wl_k_X9_above (cI cJ cK : ClassId) (m0 : Nat) (a_row : Nat) (a_tape : Nat) (a_number : Nat) (a_read : Nat) (a_readBits : Nat) (a_stands : Nat) (a_parted : Nat) (a_bitsWere : Nat) (a_stood : Nat) (a_chosen : Nat) (a_bestChosen : Nat) (a_often : Nat) (a_sorted : Nat) (a_risen : Nat) (a_risenWays : Nat) (v0_ : Int32) (v1_ : Int32) (v2_ : Int32) (v3_ : Int32) (v4_ : Int32) (v5_ : Int32) (v6_ : Int32) (v7_ : Int32) (v8_ : Int32) (v9_ : Nat → Int32) (v10_ : Nat → Int32) (v11_ : Nat → Int64) : va_W := [(m0, .inr (9, [.int v0_, .int v1_, .ref a_row, .ref a_tape, .int v2_, .int v3_, .int v4_, .int v5_, .ref a_number, .ref a_read, .int v6_, .ref a_readBits, .ref a_stands, .ref a_parted, .ref a_bitsWere, .ref a_stood, .ref a_chosen, .ref a_bestChosen, .int v7_, .ref a_often, .ref a_sorted, .int v8_, .ref a_risen, .ref a_risenWays])), (a_number, .inl (cI, 64, .inl v9_)), (a_often, .inl (cI, 512, .inl v10_)), (a_row, .inl (cJ, 64, .inr (.inl v11_)))]
set_option maxHeartbeats 4000000 in
set_option maxRecDepth 100000 in
theorem k_X9_above (l : Launch) (D : va_G) (cI cJ cK : ClassId) (m0 : Nat) (a_row : Nat) (a_tape : Nat) (a_number : Nat) (a_read : Nat) (a_readBits : Nat) (a_stands : Nat) (a_parted : Nat) (a_bitsWere : Nat) (a_stood : Nat) (a_chosen : Nat) (a_bestChosen : Nat) (a_often : Nat) (a_sorted : Nat) (a_risen : Nat) (a_risenWays : Nat) (m_thrown : Int32) (m_told : Nat) (m_taped : Nat) (m_at : Nat) (m_to : Nat) (m_many : Nat) (m_readMany : Nat) (m_fewest : Int32) (m_size : Nat) (mn : Nat → Int32) (mf : Nat → Int32) (mr : Nat → Int64) (l9 : Int32) (r9 : Int32) (v9 : Int32) (hz_m_told : m_told ≤ 64) (hz_m_taped : m_taped ≤ 100) (hz_m_at : m_at ≤ 100) (hz_m_to : m_to ≤ 100) (hz_m_many : m_many ≤ 64) (hz_m_readMany : m_readMany ≤ 64) (hz_m_size : m_size ≤ 64) (hR_mn : RB 0 255 mn) : ctI l yX9_above wsX9_above ({ frames := 1, cells := 0, slots := 0, locals := 60 } : Room) D (tyIJ cI cJ cK) [.ref m0, .int l9, .int r9, .int v9] (wl_k_X9_above cI cJ cK m0 a_row a_tape a_number a_read a_readBits a_stands a_parted a_bitsWere a_stood a_chosen a_bestChosen a_often a_sorted a_risen a_risenWays m_thrown (nI m_told) (nI m_taped) (nI m_at) (nI m_to) (nI m_many) (nI m_readMany) m_fewest (nI m_size) mn mf mr) (fun (r : Int32) (u : va_W) => (∃ (m_thrown' : Int32), u = (wl_k_X9_above cI cJ cK m0 a_row a_tape a_number a_read a_readBits a_stands a_parted a_bitsWere a_stood a_chosen a_bestChosen a_often a_sorted a_risen a_risenWays m_thrown' (nI m_told) (nI m_taped) (nI m_at) (nI m_to) (nI m_many) (nI m_readMany) m_fewest (nI m_size) mn mf mr) ∧ r = (-1) ∧ (l9.toInt < 0 ∨ r9.toInt < l9.toInt ∨ m_many < r9.toInt ∨ v9.toInt < -1 ∨ 254 < v9.toInt)) ∨ (∃ (m_thrown' : Int32) (m_told' : Nat) (mf' : Nat → Int32) (mr' : Nat → Int64), u = (wl_k_X9_above cI cJ cK m0 a_row a_tape a_number a_read a_readBits a_stands a_parted a_bitsWere a_stood a_chosen a_bestChosen a_often a_sorted a_risen a_risenWays m_thrown' (nI m_told') (nI m_taped) (nI m_at) (nI m_to) (nI m_many) (nI m_readMany) m_fewest (nI m_size) mn mf' mr') ∧ r = (-2) ∧ m_told' ≤ 64 ∧ 0 ≤ l9.toInt ∧ l9.toInt ≤ r9.toInt ∧ r9.toInt ≤ m_many ∧ abN (cnF mn l9.toInt.toNat r9.toInt.toNat) v9.toInt ∧ -1 ≤ v9.toInt ∧ v9.toInt ≤ 254 ∧ m_told' = m_told) ∨ (∃ (m_thrown' : Int32) (m_told' : Nat) (mf' : Nat → Int32) (mr' : Nat → Int64), u = (wl_k_X9_above cI cJ cK m0 a_row a_tape a_number a_read a_readBits a_stands a_parted a_bitsWere a_stood a_chosen a_bestChosen a_often a_sorted a_risen a_risenWays m_thrown' (nI m_told') (nI m_taped) (nI m_at) (nI m_to) (nI m_many) (nI m_readMany) m_fewest (nI m_size) mn mf' mr') ∧ m_told' ≤ 64 ∧ 0 ≤ l9.toInt ∧ l9.toInt ≤ r9.toInt ∧ r9.toInt ≤ m_many ∧ abP (cnF mn l9.toInt.toNat r9.toInt.toNat) v9.toInt r ∧ -1 ≤ v9.toInt ∧ v9.toInt ≤ 254 ∧ m_told' = 1)) := by
  refine ctI.of (cc := cX9_above) (maxL := 5) (ret := (some .int)) (by decide) rfl (Nat.le_of_ble_eq_true rfl) ?_
  intro p e s m below meth c ls A hx hb hr hts hown hml hlocks hname hA hK hN hP hD hS hl
  have hl : lv_has ls 5 [(0, .ref m0), (1, .int l9), (2, .int r9), (3, .int v9)] := hl
  have hown : s.vm.findClass RX9 = some m.cls := hown
  have hi9 : ∀ w ∈ u_ws RX9 TX9 24, w ∈ wsX9_above := by decide +kernel
  have fl1 := hts (.fieldLink RX9 1 "PlaneColumnModel" "thrown" "I") (by decide +kernel)
  have fl11 := hts (.fieldLink RX9 11 "PlaneColumnModel" "told" "I") (by decide +kernel)
  refine lv_aload_n hx hb dX9_above_0 rfl (lv_at hl 0 rfl) ?_
  refine lv_iconst (v := 0) hx hb dX9_above_1 (by decide +kernel) ?_
  refine va_put (ci := 9) (v := .int 0) (ty := (.int)) (C := RX9) (T := TX9) (N := 24) hx hb hts hi9 tyX9 tyX9_ok nmX9 hown hK hP hD hS 0 rfl rfl 0 (by decide) fl1 (fun _ h9 => h9) rfl (by decide +kernel) rfl rfl (Nat.le_of_ble_eq_true rfl) dX9_above_2 (fun H locs hP hD hS => ?_)
  have hP : va_P D vwCl (wl_k_X9_above cI cJ cK m0 a_row a_tape a_number a_read a_readBits a_stands a_parted a_bitsWere a_stood a_chosen a_bestChosen a_often a_sorted a_risen a_risenWays 0 (nI m_told) (nI m_taped) (nI m_at) (nI m_to) (nI m_many) (nI m_readMany) m_fewest (nI m_size) mn mf mr) H := hP
  have hD : va_D A (wl_k_X9_above cI cJ cK m0 a_row a_tape a_number a_read a_readBits a_stands a_parted a_bitsWere a_stood a_chosen a_bestChosen a_often a_sorted a_risen a_risenWays 0 (nI m_told) (nI m_taped) (nI m_at) (nI m_to) (nI m_many) (nI m_readMany) m_fewest (nI m_size) mn mf mr) := hD
  refine lv_aload_n hx hb dX9_above_5 rfl (lv_at hl 0 rfl) ?_
  refine lv_iload_n hx hb dX9_above_6 rfl (lv_at hl 1 rfl) ?_
  refine lv_iload_n hx hb dX9_above_7 rfl (lv_at hl 2 rfl) ?_
  refine my_gpI (my_pV (As := [.int l9, .int r9]) (rest := []) (ci := 9) ⟨hx, hb, hml, hown, hts⟩ (cwV 2 hts gX9_above_X9_isSpan rfl rfl rfl (by decide +kernel) ⟨Nat.le_of_ble_eq_true rfl, Nat.le_of_ble_eq_true rfl⟩) hN hK hP [0] rfl 0 rfl rfl rfl rfl hl.1 rfl (Nat.le_of_ble_eq_true rfl) dX9_above_8 ⟨Nat.le_of_ble_eq_true rfl, Nat.le_of_ble_eq_true rfl⟩  (k_X9_isSpan l D cI cJ cK m0 a_row a_tape a_number a_read a_readBits a_stands a_parted a_bitsWere a_stood a_chosen a_bestChosen a_often a_sorted a_risen a_risenWays (0 : Int32) m_told m_taped m_at m_to m_many m_readMany m_fewest m_size l9 r9 (by first | assumption | omega | decide +kernel) (by first | assumption | omega | decide +kernel) (by first | assumption | omega | decide +kernel) (by first | assumption | omega | decide +kernel) (by first | assumption | omega | decide +kernel) (by first | assumption | omega | decide +kernel) (by first | assumption | omega | decide +kernel))) (fun r hp => ?_)
  rcases hp with ⟨a_1, b_2, rfl, rfl, rfl, ha_3, hb_4⟩ | ⟨rfl, ho_5⟩
  ·
    refine lv_if_eq (tgt := 28) hx hb dX9_above_11 (by decide) (fun c11 => ?_) (fun c11 => ?_)
    ·
      exact absurd c11 (by decide +kernel)
    ·
      refine lv_iload_n hx hb dX9_above_14 rfl (lv_at hl 3 rfl) ?_
      refine lv_i2l (v := v9.toInt64) hx hb dX9_above_15 rfl ?_
      refine lv_ldc2 (v := (-1)) hx hb hown (hts (.constantLong RX9 198 (-1)) (by decide +kernel)) dX9_above_16 ?_
      refine lv_ldc2 (v := 254) hx hb hown (hts (.constantLong RX9 200 (254)) (by decide +kernel)) dX9_above_19 ?_
      refine my_gpI (my_pS (As := [.long v9.toInt64, .long (-1), .long 254]) (rest := []) ⟨hx, hb, hml, hown, hts⟩ (va_cwS 3 hts gX9_above_X9_in rfl rfl rfl (by decide +kernel) ⟨Nat.le_of_ble_eq_true rfl, Nat.le_of_ble_eq_true rfl⟩) hN hK hP [] rfl rfl hl.1 rfl (Nat.le_of_ble_eq_true rfl) dX9_above_22 ⟨Nat.le_of_ble_eq_true rfl, Nat.le_of_ble_eq_true rfl⟩  (k_X9_in l D cI cJ cK v9.toInt64 (-1 : Int64) (254 : Int64) v9.toInt (Int32.toInt_toInt64 _) (-1 : Int) (by decide +kernel) (254 : Int) (by decide +kernel))) (fun r hp => ?_)
      rcases hp with ⟨rfl, ha_6, hb_7⟩ | ⟨rfl, ho_8⟩
      ·
        refine lv_if_ne (tgt := 30) hx hb dX9_above_25 (by decide) (fun c25 => ?_) (fun c25 => ?_)
        ·
          refine lv_aload_n hx hb dX9_above_30 rfl (lv_at hl 0 rfl) ?_
          refine lv_iconst (v := 0) hx hb dX9_above_31 (by decide +kernel) ?_
          refine lv_iload_n hx hb dX9_above_32 rfl (lv_at hl 1 rfl) ?_
          refine lv_iload_n hx hb dX9_above_33 rfl (lv_at hl 2 rfl) ?_
          refine my_goVS (wc := (wl_k0_X9_counts cI cJ cK m0 a_row a_tape a_number a_read a_readBits a_stands a_parted a_bitsWere a_stood a_chosen a_bestChosen a_often a_sorted a_risen a_risenWays 0 (nI m_told) (nI m_taped) (nI m_at) (nI m_to) (nI m_many) (nI m_readMany) m_fewest (nI m_size) mn mf)) hP hD hS hA [0, 1, 2] rfl [some 0, some 1, some 2] (by decide +kernel) (my_cV (As := [.int 0, .int (nI a_1), .int (nI b_2)]) (rest := []) (ci := 9) (wc := (wl_k0_X9_counts cI cJ cK m0 a_row a_tape a_number a_read a_readBits a_stands a_parted a_bitsWere a_stood a_chosen a_bestChosen a_often a_sorted a_risen a_risenWays 0 (nI m_told) (nI m_taped) (nI m_at) (nI m_to) (nI m_many) (nI m_readMany) m_fewest (nI m_size) mn mf)) ⟨hx, hb, hml, hown, hts⟩ (cwV 3 hts gX9_above_X9_counts rfl rfl rfl (by decide +kernel) ⟨Nat.le_of_ble_eq_true rfl, Nat.le_of_ble_eq_true rfl⟩) hN hK hP hD [0, 1, 2] rfl (by decide) rfl 0 rfl rfl rfl rfl hl.1 rfl (Nat.le_of_ble_eq_true rfl) dX9_above_34 ⟨Nat.le_of_ble_eq_true rfl, Nat.le_of_ble_eq_true rfl⟩  ((k0_X9_counts l D cI cJ cK m0 a_row a_tape a_number a_read a_readBits a_stands a_parted a_bitsWere a_stood a_chosen a_bestChosen a_often a_sorted a_risen a_risenWays (0 : Int32) m_told m_taped m_at m_to m_many m_readMany m_fewest m_size mn mf a_1 b_2 (by first | assumption | omega | decide +kernel) (by first | assumption | omega | decide +kernel) (by first | assumption | omega | decide +kernel) (by first | assumption | omega | decide +kernel) (by first | assumption | omega | decide +kernel) (by first | assumption | omega | decide +kernel) (by first | assumption | omega | decide +kernel) hR_mn (by first | assumption | omega | decide +kernel) (by first | assumption | omega | decide +kernel)) _)) (fun u H locs hp hPD hS => ?_)
          obtain ⟨mf_9, rfl, hcn0, hco0⟩ := hp
          obtain ⟨hP, hD⟩ := hPD rfl
          have hP : va_P D vwCl (wl_k_X9_above cI cJ cK m0 a_row a_tape a_number a_read a_readBits a_stands a_parted a_bitsWere a_stood a_chosen a_bestChosen a_often a_sorted a_risen a_risenWays 0 (nI m_told) (nI m_taped) (nI m_at) (nI m_to) (nI m_many) (nI m_readMany) m_fewest (nI m_size) mn mf_9 mr) H := hP
          have hD : va_D A (wl_k_X9_above cI cJ cK m0 a_row a_tape a_number a_read a_readBits a_stands a_parted a_bitsWere a_stood a_chosen a_bestChosen a_often a_sorted a_risen a_risenWays 0 (nI m_told) (nI m_taped) (nI m_at) (nI m_to) (nI m_many) (nI m_readMany) m_fewest (nI m_size) mn mf_9 mr) := hD
          refine lv_iload_n hx hb dX9_above_37 rfl (lv_at hl 3 rfl) ?_
          refine lv_iconst (v := 1) hx hb dX9_above_38 (by decide +kernel) ?_
          refine lv_iadd hx hb dX9_above_39 ?_
          refine lv_topi (fun z_10 ez_10 => ?_)
          try have tz_10 : z_10.toInt = v9.toInt + (1 : Int) := by rw [ez_10]; exact my_addI rfl (by decide +kernel) (by omega) (by omega)
          refine lv_istore (lv' := [(4, .int z_10), (0, .ref m0), (1, .int (nI a_1)), (2, .int (nI b_2)), (3, .int v9)]) hx hb dX9_above_40 hl (by decide) rfl (fun ls hl => ?_)
          have loop42 : ∀ (n9 : Nat) (x : Int32), (256 - x.toInt).toNat < n9 → (0 ≤ x.toInt) → (x.toInt ≤ 256) → (v9.toInt < x.toInt) → (∀ u : Nat, v9.toInt < (u : Int) → (u : Int) < x.toInt → (cnF mn a_1 b_2) u = 0) → ∀ (H : Heap) (locs : List Loc) (ls : Array Slot), va_P D vwCl (wl_k_X9_above cI cJ cK m0 a_row a_tape a_number a_read a_readBits a_stands a_parted a_bitsWere a_stood a_chosen a_bestChosen a_often a_sorted a_risen a_risenWays 0 (nI m_told) (nI m_taped) (nI m_at) (nI m_to) (nI m_many) (nI m_readMany) m_fewest (nI m_size) mn mf_9 mr) H → va_D A (wl_k_X9_above cI cJ cK m0 a_row a_tape a_number a_read a_readBits a_stands a_parted a_bitsWere a_stood a_chosen a_bestChosen a_often a_sorted a_risen a_risenWays 0 (nI m_told) (nI m_taped) (nI m_at) (nI m_to) (nI m_many) (nI m_readMany) m_fewest (nI m_size) mn mf_9 mr) → va_S A s.heap H locs → lv_has ls 5 [(4, .int x), (0, .ref m0), (1, .int (nI a_1)), (2, .int (nI b_2)), (3, .int v9)] → W p l e ({ frames := 1, cells := 0, slots := 0, locals := 60 } : Room) s m [.ref m0, .int (nI a_1), .int (nI b_2), .int v9].toArray below meth c H locs 0 0 (MQ below (va_Qi (fun (r : Int32) (u : va_W) => (∃ (m_thrown' : Int32), u = (wl_k_X9_above cI cJ cK m0 a_row a_tape a_number a_read a_readBits a_stands a_parted a_bitsWere a_stood a_chosen a_bestChosen a_often a_sorted a_risen a_risenWays m_thrown' (nI m_told) (nI m_taped) (nI m_at) (nI m_to) (nI m_many) (nI m_readMany) m_fewest (nI m_size) mn mf mr) ∧ r = (-1) ∧ ((nI a_1).toInt < 0 ∨ (nI b_2).toInt < (nI a_1).toInt ∨ m_many < (nI b_2).toInt ∨ v9.toInt < -1 ∨ 254 < v9.toInt)) ∨ (∃ (m_thrown' : Int32) (m_told' : Nat) (mf' : Nat → Int32) (mr' : Nat → Int64), u = (wl_k_X9_above cI cJ cK m0 a_row a_tape a_number a_read a_readBits a_stands a_parted a_bitsWere a_stood a_chosen a_bestChosen a_often a_sorted a_risen a_risenWays m_thrown' (nI m_told') (nI m_taped) (nI m_at) (nI m_to) (nI m_many) (nI m_readMany) m_fewest (nI m_size) mn mf' mr') ∧ r = (-2) ∧ m_told' ≤ 64 ∧ 0 ≤ (nI a_1).toInt ∧ (nI a_1).toInt ≤ (nI b_2).toInt ∧ (nI b_2).toInt ≤ m_many ∧ abN (cnF mn (nI a_1).toInt.toNat (nI b_2).toInt.toNat) v9.toInt ∧ -1 ≤ v9.toInt ∧ v9.toInt ≤ 254 ∧ m_told' = m_told) ∨ (∃ (m_thrown' : Int32) (m_told' : Nat) (mf' : Nat → Int32) (mr' : Nat → Int64), u = (wl_k_X9_above cI cJ cK m0 a_row a_tape a_number a_read a_readBits a_stands a_parted a_bitsWere a_stood a_chosen a_bestChosen a_often a_sorted a_risen a_risenWays m_thrown' (nI m_told') (nI m_taped) (nI m_at) (nI m_to) (nI m_many) (nI m_readMany) m_fewest (nI m_size) mn mf' mr') ∧ m_told' ≤ 64 ∧ 0 ≤ (nI a_1).toInt ∧ (nI a_1).toInt ≤ (nI b_2).toInt ∧ (nI b_2).toInt ≤ m_many ∧ abP (cnF mn (nI a_1).toInt.toNat (nI b_2).toInt.toNat) v9.toInt r ∧ -1 ≤ v9.toInt ∧ v9.toInt ≤ 254 ∧ m_told' = 1)) (my_B D (tyIJ cI cJ cK) A) A) [.ref m0, .int (nI a_1), .int (nI b_2), .int v9].toArray s 0 0 A) (F0 m 42 ls []) := by
            intro n9
            induction n9 with
            | zero =>
              intro x hn9
              exact absurd hn9 (Nat.not_lt_zero _)
            | succ n9 ih42 =>
              intro x hn9 hx0 hx1 hxv hbl9 H locs ls hP hD hS hl
              refine lv_iload hx hb dX9_above_42 (lv_at hl 0 rfl) ?_
              refine lv_sipush (v := 256) hx hb dX9_above_44 (by decide +kernel) ?_
              refine lv_icmp_ge (tgt := 86) hx hb dX9_above_47 (by decide) (fun c47 => ?_) (fun c47 => ?_)
              ·
                have d47 : x.toInt ≥ (256 : Int) := my_ge c47 rfl (by decide +kernel)
                refine lv_bipush (v := (-2)) hx hb dX9_above_86 (by decide +kernel) ?_
                have hsI_l9 : (nI a_1).toInt = ((a_1 : Nat) : Int) := nI_toInt (by omega)
                have hsN_l9 : (nI a_1).toInt.toNat = a_1 := nIt (by omega)
                have hsI_r9 : (nI b_2).toInt = ((b_2 : Nat) : Int) := nI_toInt (by omega)
                have hsN_r9 : (nI b_2).toInt.toNat = b_2 := nIt (by omega)
                exact my_retI hx hb hr hlocks hK hS (wl_k_X9_above cI cJ cK m0 a_row a_tape a_number a_read a_readBits a_stands a_parted a_bitsWere a_stood a_chosen a_bestChosen a_often a_sorted a_risen a_risenWays 0 (nI m_told) (nI m_taped) (nI m_at) (nI m_to) (nI m_many) (nI m_readMany) m_fewest (nI m_size) mn mf_9 mr) hP hD (Or.inr (Or.inl ⟨0, m_told, mf_9, mr, rfl, rfl, (by first | assumption | omega | trivial | decide +kernel), (by first | assumption | omega | trivial | decide +kernel), (by first | assumption | omega | trivial | decide +kernel), (by first | assumption | omega | trivial | decide +kernel), (by rw [hsN_l9, hsN_r9]; exact ab_nmk (by omega) hbl9), (by first | assumption | omega | trivial | decide +kernel), (by first | assumption | omega | trivial | decide +kernel), (by first | assumption | omega | trivial | decide +kernel)⟩)) dX9_above_88
              ·
                have d47 : x.toInt < (256 : Int) := my_nge c47 rfl (by decide +kernel)
                refine lv_aload_n hx hb dX9_above_50 rfl (lv_at hl 1 rfl) ?_
                refine lv_iconst (v := 0) hx hb dX9_above_51 (by decide +kernel) ?_
                refine lv_iload hx hb dX9_above_52 (lv_at hl 0 rfl) ?_
                obtain ⟨w_11, ew_11, hw_11⟩ : ∃ w : Nat, x = nI w ∧ (w : Int) = (x : Int32).toInt := my_natE (by omega)
                refine my_eqi (y := nI w_11) ew_11 ?_
                refine my_gpI (my_pV (As := [.int 0, .int (nI w_11)]) (rest := []) (ci := 9) ⟨hx, hb, hml, hown, hts⟩ (cwV 2 hts gX9_above_X9_times rfl rfl rfl (by decide +kernel) ⟨Nat.le_of_ble_eq_true rfl, Nat.le_of_ble_eq_true rfl⟩) hN hK hP [0, 2] rfl 0 rfl rfl rfl rfl hl.1 rfl (Nat.le_of_ble_eq_true rfl) dX9_above_54 ⟨Nat.le_of_ble_eq_true rfl, Nat.le_of_ble_eq_true rfl⟩  (kt_X9_times l D cI cJ cK m0 a_row a_tape a_number a_read a_readBits a_stands a_parted a_bitsWere a_stood a_chosen a_bestChosen a_often a_sorted a_risen a_risenWays (0 : Int32) m_told m_taped m_at m_to m_many m_readMany m_fewest m_size mf_9 w_11 (cnF mn a_1 b_2) (by first | assumption | omega | decide +kernel) (by first | assumption | omega | decide +kernel) (by first | assumption | omega | decide +kernel) (by first | assumption | omega | decide +kernel) (by first | assumption | omega | decide +kernel) (by first | assumption | omega | decide +kernel) (by first | assumption | omega | decide +kernel) (by first | assumption | omega | decide +kernel) (hcn0) (cnF_64 (by omega)))) (fun r hp => ?_)
                obtain ⟨t_12, rfl, htm, hq_13⟩ := hp
                refine lv_if_le (tgt := 80) hx hb dX9_above_57 (by decide) (fun c57 => ?_) (fun c57 => ?_)
                ·
                  have d57 : ((t_12 : Nat) : Int) ≤ (0 : Int) := my_le c57 (nI_toInt (by omega)) (by decide +kernel)
                  obtain ⟨z_14, ez_14⟩ : ∃ y : Int32, y = x + (1) := ⟨_, rfl⟩
                  try have tz_14 : z_14.toInt = x.toInt + (1) := by rw [ez_14]; exact my_addI rfl (by decide +kernel) (by omega) (by omega)
                  refine lv_iinc (v := z_14) (lv' := [(4, .int z_14), (0, .ref m0), (1, .int (nI a_1)), (2, .int (nI b_2)), (3, .int v9)]) hx hb dX9_above_80 hl (k := 0) rfl (by rw [ez_14]; rfl) (by decide) rfl (fun ls hl => ?_)
                  refine lv_goto (tgt := 42) hx hb dX9_above_83 (by decide) ?_
                  exact ih42  z_14 (by omega) (by first | assumption | omega | decide +kernel) (by first | assumption | omega | decide +kernel) (by first | assumption | omega | decide +kernel) (ab_back hbl9 (by assumption) htm (by omega) (by omega)) _ _ ls hP hD hS (lv_sub hl [0, 1, 2, 3, 4] rfl)
                ·
                  have d57 : ((t_12 : Nat) : Int) > (0 : Int) := my_nle c57 (nI_toInt (by omega)) (by decide +kernel)
                  have hfd := bl_ne (x := x.toInt) (by assumption) htm (by omega)
                  refine lv_aload_n hx hb dX9_above_60 rfl (lv_at hl 1 rfl) ?_
                  refine lv_iconst (v := 0) hx hb dX9_above_61 (by decide +kernel) ?_
                  refine va_put (ci := 9) (v := .int 0) (ty := (.int)) (C := RX9) (T := TX9) (N := 24) hx hb hts hi9 tyX9 tyX9_ok nmX9 hown hK hP hD hS 0 rfl rfl 1 (by decide) fl11 (fun _ h9 => h9) rfl (by decide +kernel) rfl rfl (Nat.le_of_ble_eq_true rfl) dX9_above_62 (fun H locs hP hD hS => ?_)
                  have hP : va_P D vwCl (wl_k_X9_above cI cJ cK m0 a_row a_tape a_number a_read a_readBits a_stands a_parted a_bitsWere a_stood a_chosen a_bestChosen a_often a_sorted a_risen a_risenWays 0 0 (nI m_taped) (nI m_at) (nI m_to) (nI m_many) (nI m_readMany) m_fewest (nI m_size) mn mf_9 mr) H := hP
                  have hD : va_D A (wl_k_X9_above cI cJ cK m0 a_row a_tape a_number a_read a_readBits a_stands a_parted a_bitsWere a_stood a_chosen a_bestChosen a_often a_sorted a_risen a_risenWays 0 0 (nI m_taped) (nI m_at) (nI m_to) (nI m_many) (nI m_readMany) m_fewest (nI m_size) mn mf_9 mr) := hD
                  refine lv_aload_n hx hb dX9_above_65 rfl (lv_at hl 1 rfl) ?_
                  refine lv_aload_n hx hb dX9_above_66 rfl (lv_at hl 1 rfl) ?_
                  refine lv_iconst (v := 0) hx hb dX9_above_67 (by decide +kernel) ?_
                  refine lv_iload hx hb dX9_above_68 (lv_at hl 0 rfl) ?_
                  obtain ⟨w_15, ew_15, hw_15⟩ : ∃ w : Nat, x = nI w ∧ (w : Int) = (x : Int32).toInt := my_natE (by omega)
                  refine my_eqi (y := nI w_15) ew_15 ?_
                  refine my_gpI (my_pV (As := [.int 0, .int (nI w_15)]) (rest := [.ref m0]) (ci := 9) ⟨hx, hb, hml, hown, hts⟩ (cwV 2 hts gX9_above_X9_times rfl rfl rfl (by decide +kernel) ⟨Nat.le_of_ble_eq_true rfl, Nat.le_of_ble_eq_true rfl⟩) hN hK hP [0, 2] rfl 0 rfl rfl rfl rfl hl.1 rfl (Nat.le_of_ble_eq_true rfl) dX9_above_70 ⟨Nat.le_of_ble_eq_true rfl, Nat.le_of_ble_eq_true rfl⟩  (kt_X9_times l D cI cJ cK m0 a_row a_tape a_number a_read a_readBits a_stands a_parted a_bitsWere a_stood a_chosen a_bestChosen a_often a_sorted a_risen a_risenWays (0 : Int32) 0 m_taped m_at m_to m_many m_readMany m_fewest m_size mf_9 w_15 (cnF mn a_1 b_2) (by first | assumption | omega | decide +kernel) (by first | assumption | omega | decide +kernel) (by first | assumption | omega | decide +kernel) (by first | assumption | omega | decide +kernel) (by first | assumption | omega | decide +kernel) (by first | assumption | omega | decide +kernel) (by first | assumption | omega | decide +kernel) (by first | assumption | omega | decide +kernel) (hcn0) (cnF_64 (by omega)))) (fun r hp => ?_)
                  obtain ⟨t_16, rfl, htm, hq_17⟩ := hp
                  refine lv_i2l (v := lN t_16) hx hb dX9_above_73 (nI_l (by omega)) ?_
                  refine my_goVS (wc := (wl_k_X9_enters cI cJ cK m0 a_row a_tape a_number a_read a_readBits a_stands a_parted a_bitsWere a_stood a_chosen a_bestChosen a_often a_sorted a_risen a_risenWays 0 0 (nI m_taped) (nI m_at) (nI m_to) (nI m_many) (nI m_readMany) m_fewest (nI m_size) mr)) hP hD hS hA [0, 3] rfl [some 0, none, none, some 1] (by decide +kernel) (my_cV (As := [.long (lN t_16)]) (rest := []) (ci := 9) (wc := (wl_k_X9_enters cI cJ cK m0 a_row a_tape a_number a_read a_readBits a_stands a_parted a_bitsWere a_stood a_chosen a_bestChosen a_often a_sorted a_risen a_risenWays 0 0 (nI m_taped) (nI m_at) (nI m_to) (nI m_many) (nI m_readMany) m_fewest (nI m_size) mr)) ⟨hx, hb, hml, hown, hts⟩ (cwV 1 hts gX9_above_X9_enters rfl rfl rfl (by decide +kernel) ⟨Nat.le_of_ble_eq_true rfl, Nat.le_of_ble_eq_true rfl⟩) hN hK hP hD [0, 3] rfl (by decide) rfl 0 rfl rfl rfl rfl hl.1 rfl (Nat.le_of_ble_eq_true rfl) dX9_above_74 ⟨Nat.le_of_ble_eq_true rfl, Nat.le_of_ble_eq_true rfl⟩  ((k_X9_enters l D cI cJ cK m0 a_row a_tape a_number a_read a_readBits a_stands a_parted a_bitsWere a_stood a_chosen a_bestChosen a_often a_sorted a_risen a_risenWays (0 : Int32) 0 m_taped m_at m_to m_many m_readMany m_fewest m_size mr (lN t_16) (by first | assumption | omega | decide +kernel) (by first | assumption | omega | decide +kernel) (by first | assumption | omega | decide +kernel) (by first | assumption | omega | decide +kernel) (by first | assumption | omega | decide +kernel) (by first | assumption | omega | decide +kernel) (by first | assumption | omega | decide +kernel) (by first | assumption | omega | decide +kernel)) _)) (fun u H locs hp hPD hS => ?_)
                  obtain ⟨m_told_18, mr_19, rfl, hhz_m_told_20, ht_21⟩ := hp
                  obtain ⟨hP, hD⟩ := hPD rfl
                  have hP : va_P D vwCl (wl_k_X9_above cI cJ cK m0 a_row a_tape a_number a_read a_readBits a_stands a_parted a_bitsWere a_stood a_chosen a_bestChosen a_often a_sorted a_risen a_risenWays 0 (nI m_told_18) (nI m_taped) (nI m_at) (nI m_to) (nI m_many) (nI m_readMany) m_fewest (nI m_size) mn mf_9 mr_19) H := hP
                  have hD : va_D A (wl_k_X9_above cI cJ cK m0 a_row a_tape a_number a_read a_readBits a_stands a_parted a_bitsWere a_stood a_chosen a_bestChosen a_often a_sorted a_risen a_risenWays 0 (nI m_told_18) (nI m_taped) (nI m_at) (nI m_to) (nI m_many) (nI m_readMany) m_fewest (nI m_size) mn mf_9 mr_19) := hD
                  refine lv_iload hx hb dX9_above_77 (lv_at hl 0 rfl) ?_
                  have hsI_l9 : (nI a_1).toInt = ((a_1 : Nat) : Int) := nI_toInt (by omega)
                  have hsN_l9 : (nI a_1).toInt.toNat = a_1 := nIt (by omega)
                  have hsI_r9 : (nI b_2).toInt = ((b_2 : Nat) : Int) := nI_toInt (by omega)
                  have hsN_r9 : (nI b_2).toInt.toNat = b_2 := nIt (by omega)
                  exact my_retI hx hb hr hlocks hK hS (wl_k_X9_above cI cJ cK m0 a_row a_tape a_number a_read a_readBits a_stands a_parted a_bitsWere a_stood a_chosen a_bestChosen a_often a_sorted a_risen a_risenWays 0 (nI m_told_18) (nI m_taped) (nI m_at) (nI m_to) (nI m_many) (nI m_readMany) m_fewest (nI m_size) mn mf_9 mr_19) hP hD (Or.inr (Or.inr (⟨0, m_told_18, mf_9, mr_19, rfl, (by first | assumption | omega | trivial | decide +kernel), (by first | assumption | omega | trivial | decide +kernel), (by first | assumption | omega | trivial | decide +kernel), (by first | assumption | omega | trivial | decide +kernel), (by rw [hsN_l9, hsN_r9]; exact ab_mk (by omega) (by omega) (by omega) hfd hbl9), (by first | assumption | omega | trivial | decide +kernel), (by first | assumption | omega | trivial | decide +kernel), (by first | assumption | omega | trivial | decide +kernel)⟩))) dX9_above_79
          exact loop42 (((256 - z_10.toInt).toNat) + 1) z_10 (Nat.lt_succ_self _) (by first | assumption | omega | decide +kernel) (by first | assumption | omega | decide +kernel) (by first | assumption | omega | decide +kernel) (fun u h1 h2 => absurd h1 (by omega)) _ _ ls hP hD hS (lv_sub hl [0, 1, 2, 3, 4] rfl)
        ·
          exact absurd c25 (by decide +kernel)
      ·
        refine lv_if_ne (tgt := 30) hx hb dX9_above_25 (by decide) (fun c25 => ?_) (fun c25 => ?_)
        ·
          exact absurd c25 (by decide +kernel)
        ·
          refine lv_iconst (v := (-1)) hx hb dX9_above_28 (by decide +kernel) ?_
          have hsI_l9 : (nI a_1).toInt = ((a_1 : Nat) : Int) := nI_toInt (by omega)
          have hsN_l9 : (nI a_1).toInt.toNat = a_1 := nIt (by omega)
          have hsI_r9 : (nI b_2).toInt = ((b_2 : Nat) : Int) := nI_toInt (by omega)
          have hsN_r9 : (nI b_2).toInt.toNat = b_2 := nIt (by omega)
          exact my_retI hx hb hr hlocks hK hS (wl_k_X9_above cI cJ cK m0 a_row a_tape a_number a_read a_readBits a_stands a_parted a_bitsWere a_stood a_chosen a_bestChosen a_often a_sorted a_risen a_risenWays 0 (nI m_told) (nI m_taped) (nI m_at) (nI m_to) (nI m_many) (nI m_readMany) m_fewest (nI m_size) mn mf mr) hP hD (Or.inl ⟨0, rfl, rfl, (by first | assumption | omega | trivial | decide +kernel)⟩) dX9_above_29
  ·
    refine lv_if_eq (tgt := 28) hx hb dX9_above_11 (by decide) (fun c11 => ?_) (fun c11 => ?_)
    ·
      refine lv_iconst (v := (-1)) hx hb dX9_above_28 (by decide +kernel) ?_
      exact my_retI hx hb hr hlocks hK hS (wl_k_X9_above cI cJ cK m0 a_row a_tape a_number a_read a_readBits a_stands a_parted a_bitsWere a_stood a_chosen a_bestChosen a_often a_sorted a_risen a_risenWays 0 (nI m_told) (nI m_taped) (nI m_at) (nI m_to) (nI m_many) (nI m_readMany) m_fewest (nI m_size) mn mf mr) hP hD (Or.inl ⟨0, rfl, rfl, (by first | assumption | omega | trivial | decide +kernel)⟩) dX9_above_29
    ·
      exact absurd c11 (by decide +kernel)
abbrev wl_k_X9_sums (cI cJ cK : ClassId) (m0 : Nat) (a_row : Nat) (a_tape : Nat) (a_number : Nat) (a_read : Nat) (a_readBits : Nat) (a_stands : Nat) (a_parted : Nat) (a_bitsWere : Nat) (a_stood : Nat) (a_chosen : Nat) (a_bestChosen : Nat) (a_often : Nat) (a_sorted : Nat) (a_risen : Nat) (a_risenWays : Nat) (v0_ : Int32) (v1_ : Int32) (v2_ : Int32) (v3_ : Int32) (v4_ : Int32) (v5_ : Int32) (v6_ : Int32) (v7_ : Int32) (v8_ : Int32) (v9_ : Nat → Int32) (v10_ : Nat → Int32) (v11_ : Nat → Int32) (v12_ : Nat → Int64) : va_W := [(m0, .inr (9, [.int v0_, .int v1_, .ref a_row, .ref a_tape, .int v2_, .int v3_, .int v4_, .int v5_, .ref a_number, .ref a_read, .int v6_, .ref a_readBits, .ref a_stands, .ref a_parted, .ref a_bitsWere, .ref a_stood, .ref a_chosen, .ref a_bestChosen, .int v7_, .ref a_often, .ref a_sorted, .int v8_, .ref a_risen, .ref a_risenWays])), (a_number, .inl (cI, 64, .inl v9_)), (a_often, .inl (cI, 512, .inl v10_)), (a_sorted, .inl (cI, 128, .inl v11_)), (a_row, .inl (cJ, 64, .inr (.inl v12_)))]
set_option maxHeartbeats 4000000 in
set_option maxRecDepth 100000 in
theorem k_X9_sums (l : Launch) (D : va_G) (cI cJ cK : ClassId) (m0 : Nat) (a_row : Nat) (a_tape : Nat) (a_number : Nat) (a_read : Nat) (a_readBits : Nat) (a_stands : Nat) (a_parted : Nat) (a_bitsWere : Nat) (a_stood : Nat) (a_chosen : Nat) (a_bestChosen : Nat) (a_often : Nat) (a_sorted : Nat) (a_risen : Nat) (a_risenWays : Nat) (m_thrown : Int32) (m_told : Nat) (m_taped : Nat) (m_at : Nat) (m_to : Nat) (m_many : Nat) (m_readMany : Nat) (m_fewest : Int32) (m_size : Nat) (mn : Nat → Int32) (mf : Nat → Int32) (mg : Nat → Int32) (mr : Nat → Int64) (l9 : Int32) (r9 : Int32) (k9 : Int32) (hz_m_told : m_told ≤ 64) (hz_m_taped : m_taped ≤ 100) (hz_m_at : m_at ≤ 100) (hz_m_to : m_to ≤ 100) (hz_m_many : m_many ≤ 64) (hz_m_readMany : m_readMany ≤ 64) (hz_m_size : m_size ≤ 64) (hR_mn : RB 0 255 mn) (hR_mg : RB 0 255 mg) : ctI l yX9_sums wsX9_sums ({ frames := 2, cells := 0, slots := 0, locals := 120 } : Room) D (tyIJ cI cJ cK) [.ref m0, .int l9, .int r9, .int k9] (wl_k_X9_sums cI cJ cK m0 a_row a_tape a_number a_read a_readBits a_stands a_parted a_bitsWere a_stood a_chosen a_bestChosen a_often a_sorted a_risen a_risenWays m_thrown (nI m_told) (nI m_taped) (nI m_at) (nI m_to) (nI m_many) (nI m_readMany) m_fewest (nI m_size) mn mf mg mr) (fun (r : Int32) (u : va_W) => (∃ (m_thrown' : Int32), u = (wl_k_X9_sums cI cJ cK m0 a_row a_tape a_number a_read a_readBits a_stands a_parted a_bitsWere a_stood a_chosen a_bestChosen a_often a_sorted a_risen a_risenWays m_thrown' (nI m_told) (nI m_taped) (nI m_at) (nI m_to) (nI m_many) (nI m_readMany) m_fewest (nI m_size) mn mf mg mr) ∧ r = (-1) ∧ (l9.toInt < 0 ∨ r9.toInt < l9.toInt ∨ m_many < r9.toInt ∨ k9.toInt < 0)) ∨ (∃ (m_thrown' : Int32), u = (wl_k_X9_sums cI cJ cK m0 a_row a_tape a_number a_read a_readBits a_stands a_parted a_bitsWere a_stood a_chosen a_bestChosen a_often a_sorted a_risen a_risenWays m_thrown' (nI m_told) (nI m_taped) (nI m_at) (nI m_to) (nI m_many) (nI m_readMany) m_fewest (nI m_size) mn mf mg mr) ∧ r = (-2) ∧ 0 ≤ l9.toInt ∧ l9.toInt ≤ r9.toInt ∧ r9.toInt ≤ m_many ∧ r9.toInt - l9.toInt < k9.toInt) ∨ (∃ (m_thrown' : Int32) (m_told' : Nat) (m_size' : Nat) (mf' : Nat → Int32) (mg' : Nat → Int32) (mr' : Nat → Int64), u = (wl_k_X9_sums cI cJ cK m0 a_row a_tape a_number a_read a_readBits a_stands a_parted a_bitsWere a_stood a_chosen a_bestChosen a_often a_sorted a_risen a_risenWays m_thrown' (nI m_told') (nI m_taped) (nI m_at) (nI m_to) (nI m_many) (nI m_readMany) m_fewest (nI m_size') mn mf' mg' mr') ∧ m_told' ≤ 64 ∧ m_size' ≤ 64 ∧ RB 0 255 mg' ∧ 0 ≤ l9.toInt ∧ l9.toInt ≤ r9.toInt ∧ r9.toInt ≤ m_many ∧ 0 ≤ k9.toInt ∧ k9.toInt ≤ r9.toInt - l9.toInt ∧ smP mn l9.toInt.toNat r9.toInt.toNat k9.toInt.toNat r ∧ m_told' = 1)) := by
  refine ctI.of (cc := cX9_sums) (maxL := 7) (ret := (some .int)) (by decide) rfl (Nat.le_of_ble_eq_true rfl) ?_
  intro p e s m below meth c ls A hx hb hr hts hown hml hlocks hname hA hK hN hP hD hS hl
  have hl : lv_has ls 7 [(0, .ref m0), (1, .int l9), (2, .int r9), (3, .int k9)] := hl
  have hown : s.vm.findClass RX9 = some m.cls := hown
  have hi9 : ∀ w ∈ u_ws RX9 TX9 24, w ∈ wsX9_sums := by decide +kernel
  have fl1 := hts (.fieldLink RX9 1 "PlaneColumnModel" "thrown" "I") (by decide +kernel)
  have fl11 := hts (.fieldLink RX9 11 "PlaneColumnModel" "told" "I") (by decide +kernel)
  have fl172 := hts (.fieldLink RX9 172 "PlaneColumnModel" "size" "I") (by decide +kernel)
  have fl79 := hts (.fieldLink RX9 79 "PlaneColumnModel" "sorted" "[I") (by decide +kernel)
  refine lv_aload_n hx hb dX9_sums_0 rfl (lv_at hl 0 rfl) ?_
  refine lv_iconst (v := 0) hx hb dX9_sums_1 (by decide +kernel) ?_
  refine va_put (ci := 9) (v := .int 0) (ty := (.int)) (C := RX9) (T := TX9) (N := 24) hx hb hts hi9 tyX9 tyX9_ok nmX9 hown hK hP hD hS 0 rfl rfl 0 (by decide) fl1 (fun _ h9 => h9) rfl (by decide +kernel) rfl rfl (Nat.le_of_ble_eq_true rfl) dX9_sums_2 (fun H locs hP hD hS => ?_)
  have hP : va_P D vwCl (wl_k_X9_sums cI cJ cK m0 a_row a_tape a_number a_read a_readBits a_stands a_parted a_bitsWere a_stood a_chosen a_bestChosen a_often a_sorted a_risen a_risenWays 0 (nI m_told) (nI m_taped) (nI m_at) (nI m_to) (nI m_many) (nI m_readMany) m_fewest (nI m_size) mn mf mg mr) H := hP
  have hD : va_D A (wl_k_X9_sums cI cJ cK m0 a_row a_tape a_number a_read a_readBits a_stands a_parted a_bitsWere a_stood a_chosen a_bestChosen a_often a_sorted a_risen a_risenWays 0 (nI m_told) (nI m_taped) (nI m_at) (nI m_to) (nI m_many) (nI m_readMany) m_fewest (nI m_size) mn mf mg mr) := hD
  refine lv_aload_n hx hb dX9_sums_5 rfl (lv_at hl 0 rfl) ?_
  refine lv_iload_n hx hb dX9_sums_6 rfl (lv_at hl 1 rfl) ?_
  refine lv_iload_n hx hb dX9_sums_7 rfl (lv_at hl 2 rfl) ?_
  refine my_gpI (my_pV (As := [.int l9, .int r9]) (rest := []) (ci := 9) ⟨hx, hb, hml, hown, hts⟩ (cwV 2 hts gX9_sums_X9_isSpan rfl rfl rfl (by decide +kernel) ⟨Nat.le_of_ble_eq_true rfl, Nat.le_of_ble_eq_true rfl⟩) hN hK hP [0] rfl 0 rfl rfl rfl rfl hl.1 rfl (Nat.le_of_ble_eq_true rfl) dX9_sums_8 ⟨Nat.le_of_ble_eq_true rfl, Nat.le_of_ble_eq_true rfl⟩  (k_X9_isSpan l D cI cJ cK m0 a_row a_tape a_number a_read a_readBits a_stands a_parted a_bitsWere a_stood a_chosen a_bestChosen a_often a_sorted a_risen a_risenWays (0 : Int32) m_told m_taped m_at m_to m_many m_readMany m_fewest m_size l9 r9 (by first | assumption | omega | decide +kernel) (by first | assumption | omega | decide +kernel) (by first | assumption | omega | decide +kernel) (by first | assumption | omega | decide +kernel) (by first | assumption | omega | decide +kernel) (by first | assumption | omega | decide +kernel) (by first | assumption | omega | decide +kernel))) (fun r hp => ?_)
  rcases hp with ⟨a_1, b_2, rfl, rfl, rfl, ha_3, hb_4⟩ | ⟨rfl, ho_5⟩
  ·
    refine lv_if_eq (tgt := 18) hx hb dX9_sums_11 (by decide) (fun c11 => ?_) (fun c11 => ?_)
    ·
      exact absurd c11 (by decide +kernel)
    ·
      refine lv_iload_n hx hb dX9_sums_14 rfl (lv_at hl 3 rfl) ?_
      refine lv_if_ge (tgt := 20) hx hb dX9_sums_15 (by decide) (fun c15 => ?_) (fun c15 => ?_)
      ·
        have d15 : k9.toInt ≥ (0 : Int) := my_ge c15 rfl (by decide +kernel)
        obtain ⟨w_6, rfl, hw_6⟩ := my_natP (x := k9) (by omega)
        have hlw_6 : w_6 < 2147483648 := by have h9 := Int32.toInt_lt (nI w_6); omega
        refine lv_iload_n hx hb dX9_sums_20 rfl (lv_at hl 3 rfl) ?_
        refine lv_iload_n hx hb dX9_sums_21 rfl (lv_at hl 2 rfl) ?_
        refine lv_iload_n hx hb dX9_sums_22 rfl (lv_at hl 1 rfl) ?_
        refine lv_isub hx hb dX9_sums_23 ?_
        refine lv_topi (fun z_7 ez_7 => ?_)
        try have tz_7 : z_7.toInt = ((b_2 : Nat) : Int) - ((a_1 : Nat) : Int) := by rw [ez_7]; exact my_subI (nI_toInt (by omega)) (nI_toInt (by omega)) (by omega) (by omega)
        refine lv_icmp_le (tgt := 30) hx hb dX9_sums_24 (by decide) (fun c24 => ?_) (fun c24 => ?_)
        ·
          have d24 : ((w_6 : Nat) : Int) ≤ z_7.toInt := my_le c24 (nI_toInt (by omega)) rfl
          refine lv_aload_n hx hb dX9_sums_30 rfl (lv_at hl 0 rfl) ?_
          refine lv_iload_n hx hb dX9_sums_31 rfl (lv_at hl 1 rfl) ?_
          refine lv_iload_n hx hb dX9_sums_32 rfl (lv_at hl 2 rfl) ?_
          refine my_goVS (wc := (wl_k_X9_sorts cI cJ cK m0 a_row a_tape a_number a_read a_readBits a_stands a_parted a_bitsWere a_stood a_chosen a_bestChosen a_often a_sorted a_risen a_risenWays 0 (nI m_told) (nI m_taped) (nI m_at) (nI m_to) (nI m_many) (nI m_readMany) m_fewest (nI m_size) mn mf mg)) hP hD hS hA [0, 1, 2, 3] rfl [some 0, some 1, some 2, some 3] (by decide +kernel) (my_cV (As := [.int (nI a_1), .int (nI b_2)]) (rest := []) (ci := 9) (wc := (wl_k_X9_sorts cI cJ cK m0 a_row a_tape a_number a_read a_readBits a_stands a_parted a_bitsWere a_stood a_chosen a_bestChosen a_often a_sorted a_risen a_risenWays 0 (nI m_told) (nI m_taped) (nI m_at) (nI m_to) (nI m_many) (nI m_readMany) m_fewest (nI m_size) mn mf mg)) ⟨hx, hb, hml, hown, hts⟩ (cwV 2 hts gX9_sums_X9_sorts rfl rfl rfl (by decide +kernel) ⟨Nat.le_of_ble_eq_true rfl, Nat.le_of_ble_eq_true rfl⟩) hN hK hP hD [0, 1, 2, 3] rfl (by decide) rfl 0 rfl rfl rfl rfl hl.1 rfl (Nat.le_of_ble_eq_true rfl) dX9_sums_33 ⟨Nat.le_of_ble_eq_true rfl, Nat.le_of_ble_eq_true rfl⟩  ((k_X9_sorts l D cI cJ cK m0 a_row a_tape a_number a_read a_readBits a_stands a_parted a_bitsWere a_stood a_chosen a_bestChosen a_often a_sorted a_risen a_risenWays (0 : Int32) m_told m_taped m_at m_to m_many m_readMany m_fewest m_size mn mf mg a_1 b_2 (by first | assumption | omega | decide +kernel) (by first | assumption | omega | decide +kernel) (by first | assumption | omega | decide +kernel) (by first | assumption | omega | decide +kernel) (by first | assumption | omega | decide +kernel) (by first | assumption | omega | decide +kernel) (by first | assumption | omega | decide +kernel) hR_mn hR_mg (by first | assumption | omega | decide +kernel) (by first | assumption | omega | decide +kernel)) _)) (fun u H locs hp hPD hS => ?_)
          obtain ⟨m_size_8, mf_9, mg_10, rfl, hhz_m_size_11, hR_mg_10, hcs, hsz, hso, hsv⟩ := hp
          obtain ⟨hP, hD⟩ := hPD rfl
          have hP : va_P D vwCl (wl_k_X9_sums cI cJ cK m0 a_row a_tape a_number a_read a_readBits a_stands a_parted a_bitsWere a_stood a_chosen a_bestChosen a_often a_sorted a_risen a_risenWays 0 (nI m_told) (nI m_taped) (nI m_at) (nI m_to) (nI m_many) (nI m_readMany) m_fewest (nI m_size_8) mn mf_9 mg_10 mr) H := hP
          have hD : va_D A (wl_k_X9_sums cI cJ cK m0 a_row a_tape a_number a_read a_readBits a_stands a_parted a_bitsWere a_stood a_chosen a_bestChosen a_often a_sorted a_risen a_risenWays 0 (nI m_told) (nI m_taped) (nI m_at) (nI m_to) (nI m_many) (nI m_readMany) m_fewest (nI m_size_8) mn mf_9 mg_10 mr) := hD
          refine lv_iconst (v := 0) hx hb dX9_sums_36 (by decide +kernel) ?_
          refine lv_istore (lv' := [(4, .int 0), (0, .ref m0), (1, .int (nI a_1)), (2, .int (nI b_2)), (3, .int (nI w_6))]) hx hb dX9_sums_37 hl (by decide) rfl (fun ls hl => ?_)
          refine lv_iconst (v := 0) hx hb dX9_sums_39 (by decide +kernel) ?_
          refine lv_istore (lv' := [(5, .int 0), (4, .int 0), (0, .ref m0), (1, .int (nI a_1)), (2, .int (nI b_2)), (3, .int (nI w_6))]) hx hb dX9_sums_40 hl (by decide) rfl (fun ls hl => ?_)
          refine lv_iconst (v := 0) hx hb dX9_sums_42 (by decide +kernel) ?_
          refine lv_istore (lv' := [(6, .int 0), (5, .int 0), (4, .int 0), (0, .ref m0), (1, .int (nI a_1)), (2, .int (nI b_2)), (3, .int (nI w_6))]) hx hb dX9_sums_43 hl (by decide) rfl (fun ls hl => ?_)
          have loop45 : ∀ (n9 : Nat) (k : Nat) (y5_45 : Int32) (x : Int32), 64 - k < n9 → (k ≤ 64) → (k ≤ w_6) → (x.toInt = ((fb_sm (fun i => (mg_10 i).toInt.toNat) k : Nat) : Int)) → ∀ (H : Heap) (locs : List Loc) (ls : Array Slot), va_P D vwCl (wl_k_X9_sums cI cJ cK m0 a_row a_tape a_number a_read a_readBits a_stands a_parted a_bitsWere a_stood a_chosen a_bestChosen a_often a_sorted a_risen a_risenWays 0 (nI m_told) (nI m_taped) (nI m_at) (nI m_to) (nI m_many) (nI m_readMany) m_fewest (nI m_size_8) mn mf_9 mg_10 mr) H → va_D A (wl_k_X9_sums cI cJ cK m0 a_row a_tape a_number a_read a_readBits a_stands a_parted a_bitsWere a_stood a_chosen a_bestChosen a_often a_sorted a_risen a_risenWays 0 (nI m_told) (nI m_taped) (nI m_at) (nI m_to) (nI m_many) (nI m_readMany) m_fewest (nI m_size_8) mn mf_9 mg_10 mr) → va_S A s.heap H locs → lv_has ls 7 [(6, .int (nI k)), (5, .int y5_45), (4, .int x), (0, .ref m0), (1, .int (nI a_1)), (2, .int (nI b_2)), (3, .int (nI w_6))] → W p l e ({ frames := 2, cells := 0, slots := 0, locals := 120 } : Room) s m [.ref m0, .int (nI a_1), .int (nI b_2), .int (nI w_6)].toArray below meth c H locs 0 0 (MQ below (va_Qi (fun (r : Int32) (u : va_W) => (∃ (m_thrown' : Int32), u = (wl_k_X9_sums cI cJ cK m0 a_row a_tape a_number a_read a_readBits a_stands a_parted a_bitsWere a_stood a_chosen a_bestChosen a_often a_sorted a_risen a_risenWays m_thrown' (nI m_told) (nI m_taped) (nI m_at) (nI m_to) (nI m_many) (nI m_readMany) m_fewest (nI m_size) mn mf mg mr) ∧ r = (-1) ∧ ((nI a_1).toInt < 0 ∨ (nI b_2).toInt < (nI a_1).toInt ∨ m_many < (nI b_2).toInt ∨ (nI w_6).toInt < 0)) ∨ (∃ (m_thrown' : Int32), u = (wl_k_X9_sums cI cJ cK m0 a_row a_tape a_number a_read a_readBits a_stands a_parted a_bitsWere a_stood a_chosen a_bestChosen a_often a_sorted a_risen a_risenWays m_thrown' (nI m_told) (nI m_taped) (nI m_at) (nI m_to) (nI m_many) (nI m_readMany) m_fewest (nI m_size) mn mf mg mr) ∧ r = (-2) ∧ 0 ≤ (nI a_1).toInt ∧ (nI a_1).toInt ≤ (nI b_2).toInt ∧ (nI b_2).toInt ≤ m_many ∧ (nI b_2).toInt - (nI a_1).toInt < (nI w_6).toInt) ∨ (∃ (m_thrown' : Int32) (m_told' : Nat) (m_size' : Nat) (mf' : Nat → Int32) (mg' : Nat → Int32) (mr' : Nat → Int64), u = (wl_k_X9_sums cI cJ cK m0 a_row a_tape a_number a_read a_readBits a_stands a_parted a_bitsWere a_stood a_chosen a_bestChosen a_often a_sorted a_risen a_risenWays m_thrown' (nI m_told') (nI m_taped) (nI m_at) (nI m_to) (nI m_many) (nI m_readMany) m_fewest (nI m_size') mn mf' mg' mr') ∧ m_told' ≤ 64 ∧ m_size' ≤ 64 ∧ RB 0 255 mg' ∧ 0 ≤ (nI a_1).toInt ∧ (nI a_1).toInt ≤ (nI b_2).toInt ∧ (nI b_2).toInt ≤ m_many ∧ 0 ≤ (nI w_6).toInt ∧ (nI w_6).toInt ≤ (nI b_2).toInt - (nI a_1).toInt ∧ smP mn (nI a_1).toInt.toNat (nI b_2).toInt.toNat (nI w_6).toInt.toNat r ∧ m_told' = 1)) (my_B D (tyIJ cI cJ cK) A) A) [.ref m0, .int (nI a_1), .int (nI b_2), .int (nI w_6)].toArray s 0 0 A) (F0 m 45 ls []) := by
            intro n9
            induction n9 with
            | zero =>
              intro k y5_45 x hn9
              exact absurd hn9 (Nat.not_lt_zero _)
            | succ n9 ih45 =>
              intro k y5_45 x hn9 hk_k hkk hxs H locs ls hP hD hS hl
              have hsz9 := cnF_sum hR_mn (a := a_1) (b := b_2) (by omega)
              have hbd := sm_bd hsv k (by omega)
              refine lv_iload hx hb dX9_sums_45 (lv_at hl 0 rfl) ?_
              refine lv_iload_n hx hb dX9_sums_47 rfl (lv_at hl 6 rfl) ?_
              refine lv_icmp_ge (tgt := 88) hx hb dX9_sums_48 (by decide) (fun c48 => ?_) (fun c48 => ?_)
              ·
                have d48 : ((k : Nat) : Int) ≥ ((w_6 : Nat) : Int) := my_ge c48 (nI_toInt (by omega)) (nI_toInt (by omega))
                have hke : k = w_6 := by omega
                refine lv_aload_n hx hb dX9_sums_88 rfl (lv_at hl 3 rfl) ?_
                refine lv_iconst (v := 0) hx hb dX9_sums_89 (by decide +kernel) ?_
                refine va_put (ci := 9) (v := .int 0) (ty := (.int)) (C := RX9) (T := TX9) (N := 24) hx hb hts hi9 tyX9 tyX9_ok nmX9 hown hK hP hD hS 0 rfl rfl 1 (by decide) fl11 (fun _ h9 => h9) rfl (by decide +kernel) rfl rfl (Nat.le_of_ble_eq_true rfl) dX9_sums_90 (fun H locs hP hD hS => ?_)
                have hP : va_P D vwCl (wl_k_X9_sums cI cJ cK m0 a_row a_tape a_number a_read a_readBits a_stands a_parted a_bitsWere a_stood a_chosen a_bestChosen a_often a_sorted a_risen a_risenWays 0 0 (nI m_taped) (nI m_at) (nI m_to) (nI m_many) (nI m_readMany) m_fewest (nI m_size_8) mn mf_9 mg_10 mr) H := hP
                have hD : va_D A (wl_k_X9_sums cI cJ cK m0 a_row a_tape a_number a_read a_readBits a_stands a_parted a_bitsWere a_stood a_chosen a_bestChosen a_often a_sorted a_risen a_risenWays 0 0 (nI m_taped) (nI m_at) (nI m_to) (nI m_many) (nI m_readMany) m_fewest (nI m_size_8) mn mf_9 mg_10 mr) := hD
                refine lv_aload_n hx hb dX9_sums_93 rfl (lv_at hl 3 rfl) ?_
                refine lv_iload hx hb dX9_sums_94 (lv_at hl 1 rfl) ?_
                refine lv_i2l (v := y5_45.toInt64) hx hb dX9_sums_96 rfl ?_
                refine my_goVS (wc := (wl_k_X9_enters cI cJ cK m0 a_row a_tape a_number a_read a_readBits a_stands a_parted a_bitsWere a_stood a_chosen a_bestChosen a_often a_sorted a_risen a_risenWays 0 0 (nI m_taped) (nI m_at) (nI m_to) (nI m_many) (nI m_readMany) m_fewest (nI m_size_8) mr)) hP hD hS hA [0, 4] rfl [some 0, none, none, none, some 1] (by decide +kernel) (my_cV (As := [.long y5_45.toInt64]) (rest := []) (ci := 9) (wc := (wl_k_X9_enters cI cJ cK m0 a_row a_tape a_number a_read a_readBits a_stands a_parted a_bitsWere a_stood a_chosen a_bestChosen a_often a_sorted a_risen a_risenWays 0 0 (nI m_taped) (nI m_at) (nI m_to) (nI m_many) (nI m_readMany) m_fewest (nI m_size_8) mr)) ⟨hx, hb, hml, hown, hts⟩ (cwV 1 hts gX9_sums_X9_enters rfl rfl rfl (by decide +kernel) ⟨Nat.le_of_ble_eq_true rfl, Nat.le_of_ble_eq_true rfl⟩) hN hK hP hD [0, 4] rfl (by decide) rfl 0 rfl rfl rfl rfl hl.1 rfl (Nat.le_of_ble_eq_true rfl) dX9_sums_97 ⟨Nat.le_of_ble_eq_true rfl, Nat.le_of_ble_eq_true rfl⟩  ((k_X9_enters l D cI cJ cK m0 a_row a_tape a_number a_read a_readBits a_stands a_parted a_bitsWere a_stood a_chosen a_bestChosen a_often a_sorted a_risen a_risenWays (0 : Int32) 0 m_taped m_at m_to m_many m_readMany m_fewest m_size_8 mr y5_45.toInt64 (by first | assumption | omega | decide +kernel) (by first | assumption | omega | decide +kernel) (by first | assumption | omega | decide +kernel) (by first | assumption | omega | decide +kernel) (by first | assumption | omega | decide +kernel) (by first | assumption | omega | decide +kernel) (by first | assumption | omega | decide +kernel) (by first | assumption | omega | decide +kernel)) _)) (fun u H locs hp hPD hS => ?_)
                obtain ⟨m_told_12, mr_13, rfl, hhz_m_told_14, ht_15⟩ := hp
                obtain ⟨hP, hD⟩ := hPD rfl
                have hP : va_P D vwCl (wl_k_X9_sums cI cJ cK m0 a_row a_tape a_number a_read a_readBits a_stands a_parted a_bitsWere a_stood a_chosen a_bestChosen a_often a_sorted a_risen a_risenWays 0 (nI m_told_12) (nI m_taped) (nI m_at) (nI m_to) (nI m_many) (nI m_readMany) m_fewest (nI m_size_8) mn mf_9 mg_10 mr_13) H := hP
                have hD : va_D A (wl_k_X9_sums cI cJ cK m0 a_row a_tape a_number a_read a_readBits a_stands a_parted a_bitsWere a_stood a_chosen a_bestChosen a_often a_sorted a_risen a_risenWays 0 (nI m_told_12) (nI m_taped) (nI m_at) (nI m_to) (nI m_many) (nI m_readMany) m_fewest (nI m_size_8) mn mf_9 mg_10 mr_13) := hD
                refine lv_iload hx hb dX9_sums_100 (lv_at hl 2 rfl) ?_
                have hsI_l9 : (nI a_1).toInt = ((a_1 : Nat) : Int) := nI_toInt (by omega)
                have hsN_l9 : (nI a_1).toInt.toNat = a_1 := nIt (by omega)
                have hsI_r9 : (nI b_2).toInt = ((b_2 : Nat) : Int) := nI_toInt (by omega)
                have hsN_r9 : (nI b_2).toInt.toNat = b_2 := nIt (by omega)
                have hsI_k9 : (nI w_6).toInt = ((w_6 : Nat) : Int) := nI_toInt (by omega)
                have hsN_k9 : (nI w_6).toInt.toNat = w_6 := nIt (by omega)
                exact my_retI hx hb hr hlocks hK hS (wl_k_X9_sums cI cJ cK m0 a_row a_tape a_number a_read a_readBits a_stands a_parted a_bitsWere a_stood a_chosen a_bestChosen a_often a_sorted a_risen a_risenWays 0 (nI m_told_12) (nI m_taped) (nI m_at) (nI m_to) (nI m_many) (nI m_readMany) m_fewest (nI m_size_8) mn mf_9 mg_10 mr_13) hP hD (Or.inr (Or.inr (⟨0, m_told_12, m_size_8, mf_9, mg_10, mr_13, rfl, (by first | assumption | omega | trivial | decide +kernel), (by first | assumption | omega | trivial | decide +kernel), hR_mg_10, (by first | assumption | omega | trivial | decide +kernel), (by first | assumption | omega | trivial | decide +kernel), (by first | assumption | omega | trivial | decide +kernel), (by first | assumption | omega | trivial | decide +kernel), (by first | assumption | omega | trivial | decide +kernel), (by rw [hsN_l9, hsN_r9, hsN_k9, ← hke]; exact sm_mk hsv hxs), (by first | assumption | omega | trivial | decide +kernel)⟩))) dX9_sums_102
              ·
                have d48 : ((k : Nat) : Int) < ((w_6 : Nat) : Int) := my_nge c48 (nI_toInt (by omega)) (nI_toInt (by omega))
                refine lv_iload hx hb dX9_sums_51 (lv_at hl 2 rfl) ?_
                refine lv_aload_n hx hb dX9_sums_53 rfl (lv_at hl 3 rfl) ?_
                refine va_get (ci := 9) (v := .ref a_sorted) (C := RX9) (T := TX9) (N := 24) hx hb hts hi9 hown hK hP 0 rfl rfl 20 (by decide) fl79 (fun _ h9 => h9) rfl dX9_sums_54 ?_
                refine lv_iload hx hb dX9_sums_57 (lv_at hl 0 rfl) ?_
                refine va_iald hx hb hK hP 3 0 rfl rfl (vp_in_nI (by omega) (by omega)) dX9_sums_59 ?_
                refine my_eqi (y := mg_10 k) (congrArg mg_10 (nI_clamp (by omega))) ?_
                have hb_16 := hR_mg_10 k
                have hrg := sr_rng hsv (k := k) (by omega)
                refine lv_iadd hx hb dX9_sums_60 ?_
                refine lv_topi (fun z_17 ez_17 => ?_)
                try have tz_17 : z_17.toInt = x.toInt + (mg_10 k).toInt := by rw [ez_17]; exact my_addI rfl rfl (by omega) (by omega)
                refine lv_istore (lv' := [(4, .int z_17), (6, .int (nI k)), (5, .int y5_45), (0, .ref m0), (1, .int (nI a_1)), (2, .int (nI b_2)), (3, .int (nI w_6))]) hx hb dX9_sums_61 hl (by decide) rfl (fun ls hl => ?_)
                refine lv_iload hx hb dX9_sums_63 (lv_at hl 2 rfl) ?_
                refine lv_aload_n hx hb dX9_sums_65 rfl (lv_at hl 3 rfl) ?_
                refine va_get (ci := 9) (v := .ref a_sorted) (C := RX9) (T := TX9) (N := 24) hx hb hts hi9 hown hK hP 0 rfl rfl 20 (by decide) fl79 (fun _ h9 => h9) rfl dX9_sums_66 ?_
                refine lv_aload_n hx hb dX9_sums_69 rfl (lv_at hl 3 rfl) ?_
                refine va_get (ci := 9) (v := .int (nI m_size_8)) (C := RX9) (T := TX9) (N := 24) hx hb hts hi9 hown hK hP 0 rfl rfl 21 (by decide) fl172 (fun _ h9 => h9) rfl dX9_sums_70 ?_
                refine lv_iconst (v := 1) hx hb dX9_sums_73 (by decide +kernel) ?_
                refine lv_isub hx hb dX9_sums_74 ?_
                refine lv_topi (fun z_18 ez_18 => ?_)
                try have tz_18 : z_18.toInt = ((m_size_8 : Nat) : Int) - (1 : Int) := by rw [ez_18]; exact my_subI (nI_toInt (by omega)) (by decide +kernel) (by omega) (by omega)
                refine lv_iload hx hb dX9_sums_75 (lv_at hl 1 rfl) ?_
                refine lv_isub hx hb dX9_sums_77 ?_
                refine lv_topi (fun z_19 ez_19 => ?_)
                try have tz_19 : z_19.toInt = z_18.toInt - ((k : Nat) : Int) := by rw [ez_19]; exact my_subI rfl (nI_toInt (by omega)) (by omega) (by omega)
                refine va_iald hx hb hK hP 3 0 rfl rfl (vp_in_iff.mpr ⟨by omega, by omega⟩) dX9_sums_78 ?_
                refine lv_topi (fun z_21 ez_21 => ?_)
                have hb_20 := hR_mg_10 (z_19 : Int32).toNatClampNeg
                rw [← ez_21] at hb_20
                refine lv_iadd hx hb dX9_sums_79 ?_
                refine lv_topi (fun z_22 ez_22 => ?_)
                try have tz_22 : z_22.toInt = y5_45.toInt + z_21.toInt := by rw [ez_22]; exact my_addI rfl rfl (by omega) (by omega)
                refine lv_istore (lv' := [(5, .int z_22), (4, .int z_17), (6, .int (nI k)), (0, .ref m0), (1, .int (nI a_1)), (2, .int (nI b_2)), (3, .int (nI w_6))]) hx hb dX9_sums_80 hl (by decide) rfl (fun ls hl => ?_)
                refine lv_iinc (v := nI (k + 1)) (lv' := [(6, .int (nI (k + 1))), (5, .int z_22), (4, .int z_17), (0, .ref m0), (1, .int (nI a_1)), (2, .int (nI b_2)), (3, .int (nI w_6))]) hx hb dX9_sums_82 hl (k := 2) rfl (my_incN k 1 (by decide +kernel)) (by decide) rfl (fun ls hl => ?_)
                refine lv_goto (tgt := 45) hx hb dX9_sums_85 (by decide) ?_
                exact ih45  (k + 1) z_22 z_17 (by omega) (by first | assumption | omega | decide +kernel) (by first | assumption | omega | decide +kernel) (sm_step hsv (by omega) hxs (by assumption)) _ _ ls hP hD hS (lv_sub hl [0, 1, 2, 3, 4, 5, 6] rfl)
          have ec_23 : (0 : Int32).toInt = 0 := by decide +kernel
          have ec_24 : (0 : Int32).toInt = 0 := by decide +kernel
          exact loop45 ((64 - 0) + 1) 0 (0 : Int32) (0 : Int32) (Nat.lt_succ_self _) (by first | assumption | omega | decide +kernel) (by first | assumption | omega | decide +kernel) (rfl) _ _ ls hP hD hS (lv_sub hl [0, 1, 2, 3, 4, 5, 6] rfl)
        ·
          have d24 : ((w_6 : Nat) : Int) > z_7.toInt := my_nle c24 (nI_toInt (by omega)) rfl
          refine lv_bipush (v := (-2)) hx hb dX9_sums_27 (by decide +kernel) ?_
          have hsI_l9 : (nI a_1).toInt = ((a_1 : Nat) : Int) := nI_toInt (by omega)
          have hsN_l9 : (nI a_1).toInt.toNat = a_1 := nIt (by omega)
          have hsI_r9 : (nI b_2).toInt = ((b_2 : Nat) : Int) := nI_toInt (by omega)
          have hsN_r9 : (nI b_2).toInt.toNat = b_2 := nIt (by omega)
          have hsI_k9 : (nI w_6).toInt = ((w_6 : Nat) : Int) := nI_toInt (by omega)
          have hsN_k9 : (nI w_6).toInt.toNat = w_6 := nIt (by omega)
          exact my_retI hx hb hr hlocks hK hS (wl_k_X9_sums cI cJ cK m0 a_row a_tape a_number a_read a_readBits a_stands a_parted a_bitsWere a_stood a_chosen a_bestChosen a_often a_sorted a_risen a_risenWays 0 (nI m_told) (nI m_taped) (nI m_at) (nI m_to) (nI m_many) (nI m_readMany) m_fewest (nI m_size) mn mf mg mr) hP hD (Or.inr (Or.inl ⟨0, rfl, rfl, (by first | assumption | omega | trivial | decide +kernel), (by first | assumption | omega | trivial | decide +kernel), (by first | assumption | omega | trivial | decide +kernel), (by first | assumption | omega | trivial | decide +kernel)⟩)) dX9_sums_29
      ·
        have d15 : k9.toInt < (0 : Int) := my_nge c15 rfl (by decide +kernel)
        refine lv_iconst (v := (-1)) hx hb dX9_sums_18 (by decide +kernel) ?_
        have hsI_l9 : (nI a_1).toInt = ((a_1 : Nat) : Int) := nI_toInt (by omega)
        have hsN_l9 : (nI a_1).toInt.toNat = a_1 := nIt (by omega)
        have hsI_r9 : (nI b_2).toInt = ((b_2 : Nat) : Int) := nI_toInt (by omega)
        have hsN_r9 : (nI b_2).toInt.toNat = b_2 := nIt (by omega)
        exact my_retI hx hb hr hlocks hK hS (wl_k_X9_sums cI cJ cK m0 a_row a_tape a_number a_read a_readBits a_stands a_parted a_bitsWere a_stood a_chosen a_bestChosen a_often a_sorted a_risen a_risenWays 0 (nI m_told) (nI m_taped) (nI m_at) (nI m_to) (nI m_many) (nI m_readMany) m_fewest (nI m_size) mn mf mg mr) hP hD (Or.inl ⟨0, rfl, rfl, (by first | assumption | omega | trivial | decide +kernel)⟩) dX9_sums_19
  ·
    refine lv_if_eq (tgt := 18) hx hb dX9_sums_11 (by decide) (fun c11 => ?_) (fun c11 => ?_)
    ·
      refine lv_iconst (v := (-1)) hx hb dX9_sums_18 (by decide +kernel) ?_
      exact my_retI hx hb hr hlocks hK hS (wl_k_X9_sums cI cJ cK m0 a_row a_tape a_number a_read a_readBits a_stands a_parted a_bitsWere a_stood a_chosen a_bestChosen a_often a_sorted a_risen a_risenWays 0 (nI m_told) (nI m_taped) (nI m_at) (nI m_to) (nI m_many) (nI m_readMany) m_fewest (nI m_size) mn mf mg mr) hP hD (Or.inl ⟨0, rfl, rfl, (by first | assumption | omega | trivial | decide +kernel)⟩) dX9_sums_19
    ·
      exact absurd c11 (by decide +kernel)
abbrev wl_k_X9_often (cI cJ cK : ClassId) (m0 : Nat) (a_row : Nat) (a_tape : Nat) (a_number : Nat) (a_read : Nat) (a_readBits : Nat) (a_stands : Nat) (a_parted : Nat) (a_bitsWere : Nat) (a_stood : Nat) (a_chosen : Nat) (a_bestChosen : Nat) (a_often : Nat) (a_sorted : Nat) (a_risen : Nat) (a_risenWays : Nat) (v0_ : Int32) (v1_ : Int32) (v2_ : Int32) (v3_ : Int32) (v4_ : Int32) (v5_ : Int32) (v6_ : Int32) (v7_ : Int32) (v8_ : Int32) (v9_ : Nat → Int32) (v10_ : Nat → Int32) (v11_ : Nat → Int64) : va_W := [(m0, .inr (9, [.int v0_, .int v1_, .ref a_row, .ref a_tape, .int v2_, .int v3_, .int v4_, .int v5_, .ref a_number, .ref a_read, .int v6_, .ref a_readBits, .ref a_stands, .ref a_parted, .ref a_bitsWere, .ref a_stood, .ref a_chosen, .ref a_bestChosen, .int v7_, .ref a_often, .ref a_sorted, .int v8_, .ref a_risen, .ref a_risenWays])), (a_number, .inl (cI, 64, .inl v9_)), (a_often, .inl (cI, 512, .inl v10_)), (a_row, .inl (cJ, 64, .inr (.inl v11_)))]
set_option maxHeartbeats 4000000 in
set_option maxRecDepth 100000 in
theorem k_X9_often (l : Launch) (D : va_G) (cI cJ cK : ClassId) (m0 : Nat) (a_row : Nat) (a_tape : Nat) (a_number : Nat) (a_read : Nat) (a_readBits : Nat) (a_stands : Nat) (a_parted : Nat) (a_bitsWere : Nat) (a_stood : Nat) (a_chosen : Nat) (a_bestChosen : Nat) (a_often : Nat) (a_sorted : Nat) (a_risen : Nat) (a_risenWays : Nat) (m_thrown : Int32) (m_told : Nat) (m_taped : Nat) (m_at : Nat) (m_to : Nat) (m_many : Nat) (m_readMany : Nat) (m_fewest : Int32) (m_size : Nat) (mn : Nat → Int32) (mf : Nat → Int32) (mr : Nat → Int64) (l9 : Int32) (r9 : Int32) (m9 : Int32) (hz_m_told : m_told ≤ 64) (hz_m_taped : m_taped ≤ 100) (hz_m_at : m_at ≤ 100) (hz_m_to : m_to ≤ 100) (hz_m_many : m_many ≤ 64) (hz_m_readMany : m_readMany ≤ 64) (hz_m_size : m_size ≤ 64) (hR_mn : RB 0 255 mn) : ctI l yX9_often wsX9_often ({ frames := 3, cells := 0, slots := 0, locals := 180 } : Room) D (tyIJ cI cJ cK) [.ref m0, .int l9, .int r9, .int m9] (wl_k_X9_often cI cJ cK m0 a_row a_tape a_number a_read a_readBits a_stands a_parted a_bitsWere a_stood a_chosen a_bestChosen a_often a_sorted a_risen a_risenWays m_thrown (nI m_told) (nI m_taped) (nI m_at) (nI m_to) (nI m_many) (nI m_readMany) m_fewest (nI m_size) mn mf mr) (fun (r : Int32) (u : va_W) => (∃ (m_thrown' : Int32), u = (wl_k_X9_often cI cJ cK m0 a_row a_tape a_number a_read a_readBits a_stands a_parted a_bitsWere a_stood a_chosen a_bestChosen a_often a_sorted a_risen a_risenWays m_thrown' (nI m_told) (nI m_taped) (nI m_at) (nI m_to) (nI m_many) (nI m_readMany) m_fewest (nI m_size) mn mf mr) ∧ r = (-1) ∧ (l9.toInt < 0 ∨ r9.toInt < l9.toInt ∨ m_many < r9.toInt ∨ m9.toInt < 1 ∨ 64 < m9.toInt)) ∨ (∃ (t' : Nat) (m_thrown' : Int32) (m_told' : Nat) (mf' : Nat → Int32) (mr' : Nat → Int64), u = (wl_k_X9_often cI cJ cK m0 a_row a_tape a_number a_read a_readBits a_stands a_parted a_bitsWere a_stood a_chosen a_bestChosen a_often a_sorted a_risen a_risenWays m_thrown' (nI m_told') (nI m_taped) (nI m_at) (nI m_to) (nI m_many) (nI m_readMany) m_fewest (nI m_size) mn mf' mr') ∧ r = nI t' ∧ m_told' ≤ 64 ∧ 0 ≤ l9.toInt ∧ l9.toInt ≤ r9.toInt ∧ r9.toInt ≤ m_many ∧ 1 ≤ m9.toInt ∧ m9.toInt ≤ 64 ∧ t' = fb_ct (ofP (cnF mn l9.toInt.toNat r9.toInt.toNat) m9.toInt.toNat) 256 ∧ m_told' = 1 + 2 * min t' 16)) := by
  refine ctI.of (cc := cX9_often) (maxL := 6) (ret := (some .int)) (by decide) rfl (Nat.le_of_ble_eq_true rfl) ?_
  intro p e s m below meth c ls A hx hb hr hts hown hml hlocks hname hA hK hN hP hD hS hl
  have hl : lv_has ls 6 [(0, .ref m0), (1, .int l9), (2, .int r9), (3, .int m9)] := hl
  have hown : s.vm.findClass RX9 = some m.cls := hown
  have hi9 : ∀ w ∈ u_ws RX9 TX9 24, w ∈ wsX9_often := by decide +kernel
  have fl1 := hts (.fieldLink RX9 1 "PlaneColumnModel" "thrown" "I") (by decide +kernel)
  have fl11 := hts (.fieldLink RX9 11 "PlaneColumnModel" "told" "I") (by decide +kernel)
  refine lv_aload_n hx hb dX9_often_0 rfl (lv_at hl 0 rfl) ?_
  refine lv_iconst (v := 0) hx hb dX9_often_1 (by decide +kernel) ?_
  refine va_put (ci := 9) (v := .int 0) (ty := (.int)) (C := RX9) (T := TX9) (N := 24) hx hb hts hi9 tyX9 tyX9_ok nmX9 hown hK hP hD hS 0 rfl rfl 0 (by decide) fl1 (fun _ h9 => h9) rfl (by decide +kernel) rfl rfl (Nat.le_of_ble_eq_true rfl) dX9_often_2 (fun H locs hP hD hS => ?_)
  have hP : va_P D vwCl (wl_k_X9_often cI cJ cK m0 a_row a_tape a_number a_read a_readBits a_stands a_parted a_bitsWere a_stood a_chosen a_bestChosen a_often a_sorted a_risen a_risenWays 0 (nI m_told) (nI m_taped) (nI m_at) (nI m_to) (nI m_many) (nI m_readMany) m_fewest (nI m_size) mn mf mr) H := hP
  have hD : va_D A (wl_k_X9_often cI cJ cK m0 a_row a_tape a_number a_read a_readBits a_stands a_parted a_bitsWere a_stood a_chosen a_bestChosen a_often a_sorted a_risen a_risenWays 0 (nI m_told) (nI m_taped) (nI m_at) (nI m_to) (nI m_many) (nI m_readMany) m_fewest (nI m_size) mn mf mr) := hD
  refine lv_aload_n hx hb dX9_often_5 rfl (lv_at hl 0 rfl) ?_
  refine lv_iload_n hx hb dX9_often_6 rfl (lv_at hl 1 rfl) ?_
  refine lv_iload_n hx hb dX9_often_7 rfl (lv_at hl 2 rfl) ?_
  refine my_gpI (my_pV (As := [.int l9, .int r9]) (rest := []) (ci := 9) ⟨hx, hb, hml, hown, hts⟩ (cwV 2 hts gX9_often_X9_isSpan rfl rfl rfl (by decide +kernel) ⟨Nat.le_of_ble_eq_true rfl, Nat.le_of_ble_eq_true rfl⟩) hN hK hP [0] rfl 0 rfl rfl rfl rfl hl.1 rfl (Nat.le_of_ble_eq_true rfl) dX9_often_8 ⟨Nat.le_of_ble_eq_true rfl, Nat.le_of_ble_eq_true rfl⟩  (k_X9_isSpan l D cI cJ cK m0 a_row a_tape a_number a_read a_readBits a_stands a_parted a_bitsWere a_stood a_chosen a_bestChosen a_often a_sorted a_risen a_risenWays (0 : Int32) m_told m_taped m_at m_to m_many m_readMany m_fewest m_size l9 r9 (by first | assumption | omega | decide +kernel) (by first | assumption | omega | decide +kernel) (by first | assumption | omega | decide +kernel) (by first | assumption | omega | decide +kernel) (by first | assumption | omega | decide +kernel) (by first | assumption | omega | decide +kernel) (by first | assumption | omega | decide +kernel))) (fun r hp => ?_)
  rcases hp with ⟨a_1, b_2, rfl, rfl, rfl, ha_3, hb_4⟩ | ⟨rfl, ho_5⟩
  ·
    refine lv_if_eq (tgt := 26) hx hb dX9_often_11 (by decide) (fun c11 => ?_) (fun c11 => ?_)
    ·
      exact absurd c11 (by decide +kernel)
    ·
      refine lv_iload_n hx hb dX9_often_14 rfl (lv_at hl 3 rfl) ?_
      refine lv_i2l (v := m9.toInt64) hx hb dX9_often_15 rfl ?_
      refine lv_lconst (v := 1) hx hb dX9_often_16 (by decide +kernel) ?_
      refine lv_ldc2 (v := 64) hx hb hown (hts (.constantLong RX9 202 (64)) (by decide +kernel)) dX9_often_17 ?_
      refine my_gpI (my_pS (As := [.long m9.toInt64, .long 1, .long 64]) (rest := []) ⟨hx, hb, hml, hown, hts⟩ (va_cwS 3 hts gX9_often_X9_in rfl rfl rfl (by decide +kernel) ⟨Nat.le_of_ble_eq_true rfl, Nat.le_of_ble_eq_true rfl⟩) hN hK hP [] rfl rfl hl.1 rfl (Nat.le_of_ble_eq_true rfl) dX9_often_20 ⟨Nat.le_of_ble_eq_true rfl, Nat.le_of_ble_eq_true rfl⟩  (k_X9_in l D cI cJ cK m9.toInt64 (1 : Int64) (64 : Int64) m9.toInt (Int32.toInt_toInt64 _) (1 : Int) (by decide +kernel) (64 : Int) (by decide +kernel))) (fun r hp => ?_)
      rcases hp with ⟨rfl, ha_6, hb_7⟩ | ⟨rfl, ho_8⟩
      ·
        refine lv_if_ne (tgt := 28) hx hb dX9_often_23 (by decide) (fun c23 => ?_) (fun c23 => ?_)
        ·
          obtain ⟨w_9, rfl, hw_9⟩ := my_natP (x := m9) (by omega)
          have hlw_9 : w_9 < 2147483648 := by have h9 := Int32.toInt_lt (nI w_9); omega
          refine lv_aload_n hx hb dX9_often_28 rfl (lv_at hl 0 rfl) ?_
          refine lv_iconst (v := 0) hx hb dX9_often_29 (by decide +kernel) ?_
          refine lv_iload_n hx hb dX9_often_30 rfl (lv_at hl 1 rfl) ?_
          refine lv_iload_n hx hb dX9_often_31 rfl (lv_at hl 2 rfl) ?_
          refine my_goVS (wc := (wl_k0_X9_counts cI cJ cK m0 a_row a_tape a_number a_read a_readBits a_stands a_parted a_bitsWere a_stood a_chosen a_bestChosen a_often a_sorted a_risen a_risenWays 0 (nI m_told) (nI m_taped) (nI m_at) (nI m_to) (nI m_many) (nI m_readMany) m_fewest (nI m_size) mn mf)) hP hD hS hA [0, 1, 2] rfl [some 0, some 1, some 2] (by decide +kernel) (my_cV (As := [.int 0, .int (nI a_1), .int (nI b_2)]) (rest := []) (ci := 9) (wc := (wl_k0_X9_counts cI cJ cK m0 a_row a_tape a_number a_read a_readBits a_stands a_parted a_bitsWere a_stood a_chosen a_bestChosen a_often a_sorted a_risen a_risenWays 0 (nI m_told) (nI m_taped) (nI m_at) (nI m_to) (nI m_many) (nI m_readMany) m_fewest (nI m_size) mn mf)) ⟨hx, hb, hml, hown, hts⟩ (cwV 3 hts gX9_often_X9_counts rfl rfl rfl (by decide +kernel) ⟨Nat.le_of_ble_eq_true rfl, Nat.le_of_ble_eq_true rfl⟩) hN hK hP hD [0, 1, 2] rfl (by decide) rfl 0 rfl rfl rfl rfl hl.1 rfl (Nat.le_of_ble_eq_true rfl) dX9_often_32 ⟨Nat.le_of_ble_eq_true rfl, Nat.le_of_ble_eq_true rfl⟩  ((k0_X9_counts l D cI cJ cK m0 a_row a_tape a_number a_read a_readBits a_stands a_parted a_bitsWere a_stood a_chosen a_bestChosen a_often a_sorted a_risen a_risenWays (0 : Int32) m_told m_taped m_at m_to m_many m_readMany m_fewest m_size mn mf a_1 b_2 (by first | assumption | omega | decide +kernel) (by first | assumption | omega | decide +kernel) (by first | assumption | omega | decide +kernel) (by first | assumption | omega | decide +kernel) (by first | assumption | omega | decide +kernel) (by first | assumption | omega | decide +kernel) (by first | assumption | omega | decide +kernel) hR_mn (by first | assumption | omega | decide +kernel) (by first | assumption | omega | decide +kernel)) _)) (fun u H locs hp hPD hS => ?_)
          obtain ⟨mf_10, rfl, hcn0, hco0⟩ := hp
          obtain ⟨hP, hD⟩ := hPD rfl
          have hP : va_P D vwCl (wl_k_X9_often cI cJ cK m0 a_row a_tape a_number a_read a_readBits a_stands a_parted a_bitsWere a_stood a_chosen a_bestChosen a_often a_sorted a_risen a_risenWays 0 (nI m_told) (nI m_taped) (nI m_at) (nI m_to) (nI m_many) (nI m_readMany) m_fewest (nI m_size) mn mf_10 mr) H := hP
          have hD : va_D A (wl_k_X9_often cI cJ cK m0 a_row a_tape a_number a_read a_readBits a_stands a_parted a_bitsWere a_stood a_chosen a_bestChosen a_often a_sorted a_risen a_risenWays 0 (nI m_told) (nI m_taped) (nI m_at) (nI m_to) (nI m_many) (nI m_readMany) m_fewest (nI m_size) mn mf_10 mr) := hD
          refine lv_aload_n hx hb dX9_often_35 rfl (lv_at hl 0 rfl) ?_
          refine lv_iconst (v := 0) hx hb dX9_often_36 (by decide +kernel) ?_
          refine va_put (ci := 9) (v := .int 0) (ty := (.int)) (C := RX9) (T := TX9) (N := 24) hx hb hts hi9 tyX9 tyX9_ok nmX9 hown hK hP hD hS 0 rfl rfl 1 (by decide) fl11 (fun _ h9 => h9) rfl (by decide +kernel) rfl rfl (Nat.le_of_ble_eq_true rfl) dX9_often_37 (fun H locs hP hD hS => ?_)
          have hP : va_P D vwCl (wl_k_X9_often cI cJ cK m0 a_row a_tape a_number a_read a_readBits a_stands a_parted a_bitsWere a_stood a_chosen a_bestChosen a_often a_sorted a_risen a_risenWays 0 0 (nI m_taped) (nI m_at) (nI m_to) (nI m_many) (nI m_readMany) m_fewest (nI m_size) mn mf_10 mr) H := hP
          have hD : va_D A (wl_k_X9_often cI cJ cK m0 a_row a_tape a_number a_read a_readBits a_stands a_parted a_bitsWere a_stood a_chosen a_bestChosen a_often a_sorted a_risen a_risenWays 0 0 (nI m_taped) (nI m_at) (nI m_to) (nI m_many) (nI m_readMany) m_fewest (nI m_size) mn mf_10 mr) := hD
          refine lv_aload_n hx hb dX9_often_40 rfl (lv_at hl 0 rfl) ?_
          refine lv_aload_n hx hb dX9_often_41 rfl (lv_at hl 0 rfl) ?_
          refine lv_iload_n hx hb dX9_often_42 rfl (lv_at hl 3 rfl) ?_
          refine lv_iconst (v := 0) hx hb dX9_often_43 (by decide +kernel) ?_
          refine my_gpI (my_pV (As := [.int (nI w_9), .int 0]) (rest := [.ref m0]) (ci := 9) ⟨hx, hb, hml, hown, hts⟩ (cwV 2 hts gX9_often_X9_nodes rfl rfl rfl (by decide +kernel) ⟨Nat.le_of_ble_eq_true rfl, Nat.le_of_ble_eq_true rfl⟩) hN hK hP [0, 2] rfl 0 rfl rfl rfl rfl hl.1 rfl (Nat.le_of_ble_eq_true rfl) dX9_often_44 ⟨Nat.le_of_ble_eq_true rfl, Nat.le_of_ble_eq_true rfl⟩  (k0_X9_nodes l D cI cJ cK m0 a_row a_tape a_number a_read a_readBits a_stands a_parted a_bitsWere a_stood a_chosen a_bestChosen a_often a_sorted a_risen a_risenWays (0 : Int32) 0 m_taped m_at m_to m_many m_readMany m_fewest m_size mf_10 (nI w_9) (by first | assumption | omega | decide +kernel) (by first | assumption | omega | decide +kernel) (by first | assumption | omega | decide +kernel) (by first | assumption | omega | decide +kernel) (by first | assumption | omega | decide +kernel) (by first | assumption | omega | decide +kernel) (by first | assumption | omega | decide +kernel))) (fun r hp => ?_)
          obtain _ := hp
          obtain ⟨r_11, rfl⟩ : ∃ z, z = r := ⟨_, rfl⟩
          refine lv_i2l (v := r_11.toInt64) hx hb dX9_often_47 rfl ?_
          refine my_goVS (wc := (wl_k_X9_enters cI cJ cK m0 a_row a_tape a_number a_read a_readBits a_stands a_parted a_bitsWere a_stood a_chosen a_bestChosen a_often a_sorted a_risen a_risenWays 0 0 (nI m_taped) (nI m_at) (nI m_to) (nI m_many) (nI m_readMany) m_fewest (nI m_size) mr)) hP hD hS hA [0, 3] rfl [some 0, none, none, some 1] (by decide +kernel) (my_cV (As := [.long r_11.toInt64]) (rest := []) (ci := 9) (wc := (wl_k_X9_enters cI cJ cK m0 a_row a_tape a_number a_read a_readBits a_stands a_parted a_bitsWere a_stood a_chosen a_bestChosen a_often a_sorted a_risen a_risenWays 0 0 (nI m_taped) (nI m_at) (nI m_to) (nI m_many) (nI m_readMany) m_fewest (nI m_size) mr)) ⟨hx, hb, hml, hown, hts⟩ (cwV 1 hts gX9_often_X9_enters rfl rfl rfl (by decide +kernel) ⟨Nat.le_of_ble_eq_true rfl, Nat.le_of_ble_eq_true rfl⟩) hN hK hP hD [0, 3] rfl (by decide) rfl 0 rfl rfl rfl rfl hl.1 rfl (Nat.le_of_ble_eq_true rfl) dX9_often_48 ⟨Nat.le_of_ble_eq_true rfl, Nat.le_of_ble_eq_true rfl⟩  ((k_X9_enters l D cI cJ cK m0 a_row a_tape a_number a_read a_readBits a_stands a_parted a_bitsWere a_stood a_chosen a_bestChosen a_often a_sorted a_risen a_risenWays (0 : Int32) 0 m_taped m_at m_to m_many m_readMany m_fewest m_size mr r_11.toInt64 (by first | assumption | omega | decide +kernel) (by first | assumption | omega | decide +kernel) (by first | assumption | omega | decide +kernel) (by first | assumption | omega | decide +kernel) (by first | assumption | omega | decide +kernel) (by first | assumption | omega | decide +kernel) (by first | assumption | omega | decide +kernel) (by first | assumption | omega | decide +kernel)) _)) (fun u H locs hp hPD hS => ?_)
          obtain ⟨m_told_12, mr_13, rfl, hhz_m_told_14, ht_15⟩ := hp
          obtain ⟨hP, hD⟩ := hPD rfl
          have hP : va_P D vwCl (wl_k_X9_often cI cJ cK m0 a_row a_tape a_number a_read a_readBits a_stands a_parted a_bitsWere a_stood a_chosen a_bestChosen a_often a_sorted a_risen a_risenWays 0 (nI m_told_12) (nI m_taped) (nI m_at) (nI m_to) (nI m_many) (nI m_readMany) m_fewest (nI m_size) mn mf_10 mr_13) H := hP
          have hD : va_D A (wl_k_X9_often cI cJ cK m0 a_row a_tape a_number a_read a_readBits a_stands a_parted a_bitsWere a_stood a_chosen a_bestChosen a_often a_sorted a_risen a_risenWays 0 (nI m_told_12) (nI m_taped) (nI m_at) (nI m_to) (nI m_many) (nI m_readMany) m_fewest (nI m_size) mn mf_10 mr_13) := hD
          refine lv_iconst (v := 0) hx hb dX9_often_51 (by decide +kernel) ?_
          refine lv_istore (lv' := [(4, .int 0), (0, .ref m0), (1, .int (nI a_1)), (2, .int (nI b_2)), (3, .int (nI w_9))]) hx hb dX9_often_52 hl (by decide) rfl (fun ls hl => ?_)
          refine lv_iconst (v := 0) hx hb dX9_often_54 (by decide +kernel) ?_
          refine lv_istore (lv' := [(5, .int 0), (4, .int 0), (0, .ref m0), (1, .int (nI a_1)), (2, .int (nI b_2)), (3, .int (nI w_9))]) hx hb dX9_often_55 hl (by decide) rfl (fun ls hl => ?_)
          have loop57 : ∀ (n9 : Nat) (v : Nat) (t : Nat) (m0_told_57 : Nat) (a_row_57 : Nat → Int64), 256 - v < n9 → (t ≤ 256) → (v ≤ 256) → (t ≤ v) → (t = fb_ct (ofP (cnF mn a_1 b_2) w_9) v) → (m0_told_57 ≤ 1 + 2 * t) → (m0_told_57 ≤ 33) → (m0_told_57 = 1 + 2 * min t 16) → (m0_told_57 ≤ 64) → ∀ (H : Heap) (locs : List Loc) (ls : Array Slot), va_P D vwCl (wl_k_X9_often cI cJ cK m0 a_row a_tape a_number a_read a_readBits a_stands a_parted a_bitsWere a_stood a_chosen a_bestChosen a_often a_sorted a_risen a_risenWays 0 (nI m0_told_57) (nI m_taped) (nI m_at) (nI m_to) (nI m_many) (nI m_readMany) m_fewest (nI m_size) mn mf_10 a_row_57) H → va_D A (wl_k_X9_often cI cJ cK m0 a_row a_tape a_number a_read a_readBits a_stands a_parted a_bitsWere a_stood a_chosen a_bestChosen a_often a_sorted a_risen a_risenWays 0 (nI m0_told_57) (nI m_taped) (nI m_at) (nI m_to) (nI m_many) (nI m_readMany) m_fewest (nI m_size) mn mf_10 a_row_57) → va_S A s.heap H locs → lv_has ls 6 [(5, .int (nI v)), (4, .int (nI t)), (0, .ref m0), (1, .int (nI a_1)), (2, .int (nI b_2)), (3, .int (nI w_9))] → W p l e ({ frames := 3, cells := 0, slots := 0, locals := 180 } : Room) s m [.ref m0, .int (nI a_1), .int (nI b_2), .int (nI w_9)].toArray below meth c H locs 0 0 (MQ below (va_Qi (fun (r : Int32) (u : va_W) => (∃ (m_thrown' : Int32), u = (wl_k_X9_often cI cJ cK m0 a_row a_tape a_number a_read a_readBits a_stands a_parted a_bitsWere a_stood a_chosen a_bestChosen a_often a_sorted a_risen a_risenWays m_thrown' (nI m_told) (nI m_taped) (nI m_at) (nI m_to) (nI m_many) (nI m_readMany) m_fewest (nI m_size) mn mf mr) ∧ r = (-1) ∧ ((nI a_1).toInt < 0 ∨ (nI b_2).toInt < (nI a_1).toInt ∨ m_many < (nI b_2).toInt ∨ (nI w_9).toInt < 1 ∨ 64 < (nI w_9).toInt)) ∨ (∃ (t' : Nat) (m_thrown' : Int32) (m_told' : Nat) (mf' : Nat → Int32) (mr' : Nat → Int64), u = (wl_k_X9_often cI cJ cK m0 a_row a_tape a_number a_read a_readBits a_stands a_parted a_bitsWere a_stood a_chosen a_bestChosen a_often a_sorted a_risen a_risenWays m_thrown' (nI m_told') (nI m_taped) (nI m_at) (nI m_to) (nI m_many) (nI m_readMany) m_fewest (nI m_size) mn mf' mr') ∧ r = nI t' ∧ m_told' ≤ 64 ∧ 0 ≤ (nI a_1).toInt ∧ (nI a_1).toInt ≤ (nI b_2).toInt ∧ (nI b_2).toInt ≤ m_many ∧ 1 ≤ (nI w_9).toInt ∧ (nI w_9).toInt ≤ 64 ∧ t' = fb_ct (ofP (cnF mn (nI a_1).toInt.toNat (nI b_2).toInt.toNat) (nI w_9).toInt.toNat) 256 ∧ m_told' = 1 + 2 * min t' 16)) (my_B D (tyIJ cI cJ cK) A) A) [.ref m0, .int (nI a_1), .int (nI b_2), .int (nI w_9)].toArray s 0 0 A) (F0 m 57 ls []) := by
            intro n9
            induction n9 with
            | zero =>
              intro v t m0_told_57 a_row_57 hn9
              exact absurd hn9 (Nat.not_lt_zero _)
            | succ n9 ih57 =>
              intro v t m0_told_57 a_row_57 hn9 hk_t hk_v htv ht htd htd2 htd9 hz_m0_told_57 H locs ls hP hD hS hl
              refine lv_iload hx hb dX9_often_57 (lv_at hl 0 rfl) ?_
              refine lv_sipush (v := 256) hx hb dX9_often_59 (by decide +kernel) ?_
              refine lv_icmp_ge (tgt := 111) hx hb dX9_often_62 (by decide) (fun c62 => ?_) (fun c62 => ?_)
              ·
                have d62 : ((v : Nat) : Int) ≥ (256 : Int) := my_ge c62 (nI_toInt (by omega)) (by decide +kernel)
                refine lv_iload hx hb dX9_often_111 (lv_at hl 1 rfl) ?_
                have hsI_l9 : (nI a_1).toInt = ((a_1 : Nat) : Int) := nI_toInt (by omega)
                have hsN_l9 : (nI a_1).toInt.toNat = a_1 := nIt (by omega)
                have hsI_r9 : (nI b_2).toInt = ((b_2 : Nat) : Int) := nI_toInt (by omega)
                have hsN_r9 : (nI b_2).toInt.toNat = b_2 := nIt (by omega)
                have hsI_m9 : (nI w_9).toInt = ((w_9 : Nat) : Int) := nI_toInt (by omega)
                have hsN_m9 : (nI w_9).toInt.toNat = w_9 := nIt (by omega)
                exact my_retI hx hb hr hlocks hK hS (wl_k_X9_often cI cJ cK m0 a_row a_tape a_number a_read a_readBits a_stands a_parted a_bitsWere a_stood a_chosen a_bestChosen a_often a_sorted a_risen a_risenWays 0 (nI m0_told_57) (nI m_taped) (nI m_at) (nI m_to) (nI m_many) (nI m_readMany) m_fewest (nI m_size) mn mf_10 a_row_57) hP hD (Or.inr (⟨t, 0, m0_told_57, mf_10, a_row_57, rfl, rfl, (by first | assumption | omega | trivial | decide +kernel), (by first | assumption | omega | trivial | decide +kernel), (by first | assumption | omega | trivial | decide +kernel), (by first | assumption | omega | trivial | decide +kernel), (by first | assumption | omega | trivial | decide +kernel), (by first | assumption | omega | trivial | decide +kernel), (by rw [hsN_l9, hsN_r9, hsN_m9, ht, show v = 256 from (by omega)]), (by first | assumption | omega | trivial | decide +kernel)⟩)) dX9_often_113
              ·
                have d62 : ((v : Nat) : Int) < (256 : Int) := my_nge c62 (nI_toInt (by omega)) (by decide +kernel)
                refine lv_aload_n hx hb dX9_often_65 rfl (lv_at hl 2 rfl) ?_
                refine lv_iconst (v := 0) hx hb dX9_often_66 (by decide +kernel) ?_
                refine lv_iload hx hb dX9_often_67 (lv_at hl 0 rfl) ?_
                refine my_gpI (my_pV (As := [.int 0, .int (nI v)]) (rest := []) (ci := 9) ⟨hx, hb, hml, hown, hts⟩ (cwV 2 hts gX9_often_X9_times rfl rfl rfl (by decide +kernel) ⟨Nat.le_of_ble_eq_true rfl, Nat.le_of_ble_eq_true rfl⟩) hN hK hP [0, 2] rfl 0 rfl rfl rfl rfl hl.1 rfl (Nat.le_of_ble_eq_true rfl) dX9_often_69 ⟨Nat.le_of_ble_eq_true rfl, Nat.le_of_ble_eq_true rfl⟩  (kt_X9_times l D cI cJ cK m0 a_row a_tape a_number a_read a_readBits a_stands a_parted a_bitsWere a_stood a_chosen a_bestChosen a_often a_sorted a_risen a_risenWays (0 : Int32) m0_told_57 m_taped m_at m_to m_many m_readMany m_fewest m_size mf_10 v (cnF mn a_1 b_2) (by first | assumption | omega | decide +kernel) (by first | assumption | omega | decide +kernel) (by first | assumption | omega | decide +kernel) (by first | assumption | omega | decide +kernel) (by first | assumption | omega | decide +kernel) (by first | assumption | omega | decide +kernel) (by first | assumption | omega | decide +kernel) (by first | assumption | omega | decide +kernel) (hcn0) (cnF_64 (by omega)))) (fun r hp => ?_)
                obtain ⟨t_16, rfl, htm, hq_17⟩ := hp
                refine lv_iload_n hx hb dX9_often_72 rfl (lv_at hl 5 rfl) ?_
                refine lv_icmp_lt (tgt := 105) hx hb dX9_often_73 (by decide) (fun c73 => ?_) (fun c73 => ?_)
                ·
                  have d73 : ((t_16 : Nat) : Int) < ((w_9 : Nat) : Int) := my_lt c73 (nI_toInt (by omega)) (nI_toInt (by omega))
                  refine lv_iinc (v := nI (v + 1)) (lv' := [(5, .int (nI (v + 1))), (4, .int (nI t)), (0, .ref m0), (1, .int (nI a_1)), (2, .int (nI b_2)), (3, .int (nI w_9))]) hx hb dX9_often_105 hl (k := 0) rfl (my_incN v 1 (by decide +kernel)) (by decide) rfl (fun ls hl => ?_)
                  refine lv_goto (tgt := 57) hx hb dX9_often_108 (by decide) ?_
                  exact ih57  (v + 1) t m0_told_57 a_row_57 (by omega) (by first | assumption | omega | decide +kernel) (by first | assumption | omega | decide +kernel) (by first | assumption | omega | decide +kernel) (by first | exact ct_yes ht (decide_eq_true (by omega)) | exact ct_no ht (decide_eq_false (by omega))) (by first | assumption | omega | decide +kernel) (by first | assumption | omega | decide +kernel) (by first | assumption | omega | decide +kernel) (by first | assumption | omega | decide +kernel) _ _ ls hP hD hS (lv_sub hl [0, 1, 2, 3, 4, 5] rfl)
                ·
                  have d73 : ((t_16 : Nat) : Int) ≥ ((w_9 : Nat) : Int) := my_nlt c73 (nI_toInt (by omega)) (nI_toInt (by omega))
                  refine lv_iload hx hb dX9_often_76 (lv_at hl 1 rfl) ?_
                  refine lv_bipush (v := 16) hx hb dX9_often_78 (by decide +kernel) ?_
                  refine lv_icmp_ge (tgt := 102) hx hb dX9_often_80 (by decide) (fun c80 => ?_) (fun c80 => ?_)
                  ·
                    have d80 : ((t : Nat) : Int) ≥ (16 : Int) := my_ge c80 (nI_toInt (by omega)) (by decide +kernel)
                    refine lv_iinc (v := nI (t + 1)) (lv' := [(4, .int (nI (t + 1))), (5, .int (nI v)), (0, .ref m0), (1, .int (nI a_1)), (2, .int (nI b_2)), (3, .int (nI w_9))]) hx hb dX9_often_102 hl (k := 1) rfl (my_incN t 1 (by decide +kernel)) (by decide) rfl (fun ls hl => ?_)
                    refine lv_iinc (v := nI (v + 1)) (lv' := [(5, .int (nI (v + 1))), (4, .int (nI (t + 1))), (0, .ref m0), (1, .int (nI a_1)), (2, .int (nI b_2)), (3, .int (nI w_9))]) hx hb dX9_often_105 hl (k := 1) rfl (my_incN v 1 (by decide +kernel)) (by decide) rfl (fun ls hl => ?_)
                    refine lv_goto (tgt := 57) hx hb dX9_often_108 (by decide) ?_
                    exact ih57  (v + 1) (t + 1) m0_told_57 a_row_57 (by omega) (by first | assumption | omega | decide +kernel) (by first | assumption | omega | decide +kernel) (by first | assumption | omega | decide +kernel) (by first | exact ct_yes ht (decide_eq_true (by omega)) | exact ct_no ht (decide_eq_false (by omega))) (by first | assumption | omega | decide +kernel) (by first | assumption | omega | decide +kernel) (by first | assumption | omega | decide +kernel) (by first | assumption | omega | decide +kernel) _ _ ls hP hD hS (lv_sub hl [0, 1, 2, 3, 4, 5] rfl)
                  ·
                    have d80 : ((t : Nat) : Int) < (16 : Int) := my_nge c80 (nI_toInt (by omega)) (by decide +kernel)
                    refine lv_aload_n hx hb dX9_often_83 rfl (lv_at hl 2 rfl) ?_
                    refine lv_iload hx hb dX9_often_84 (lv_at hl 0 rfl) ?_
                    refine lv_i2l (v := lN v) hx hb dX9_often_86 (nI_l (by omega)) ?_
                    refine my_goVS (wc := (wl_k_X9_enters cI cJ cK m0 a_row a_tape a_number a_read a_readBits a_stands a_parted a_bitsWere a_stood a_chosen a_bestChosen a_often a_sorted a_risen a_risenWays 0 (nI m0_told_57) (nI m_taped) (nI m_at) (nI m_to) (nI m_many) (nI m_readMany) m_fewest (nI m_size) a_row_57)) hP hD hS hA [0, 3] rfl [some 0, none, none, some 1] (by decide +kernel) (my_cV (As := [.long (lN v)]) (rest := []) (ci := 9) (wc := (wl_k_X9_enters cI cJ cK m0 a_row a_tape a_number a_read a_readBits a_stands a_parted a_bitsWere a_stood a_chosen a_bestChosen a_often a_sorted a_risen a_risenWays 0 (nI m0_told_57) (nI m_taped) (nI m_at) (nI m_to) (nI m_many) (nI m_readMany) m_fewest (nI m_size) a_row_57)) ⟨hx, hb, hml, hown, hts⟩ (cwV 1 hts gX9_often_X9_enters rfl rfl rfl (by decide +kernel) ⟨Nat.le_of_ble_eq_true rfl, Nat.le_of_ble_eq_true rfl⟩) hN hK hP hD [0, 3] rfl (by decide) rfl 0 rfl rfl rfl rfl hl.1 rfl (Nat.le_of_ble_eq_true rfl) dX9_often_87 ⟨Nat.le_of_ble_eq_true rfl, Nat.le_of_ble_eq_true rfl⟩  ((k_X9_enters l D cI cJ cK m0 a_row a_tape a_number a_read a_readBits a_stands a_parted a_bitsWere a_stood a_chosen a_bestChosen a_often a_sorted a_risen a_risenWays (0 : Int32) m0_told_57 m_taped m_at m_to m_many m_readMany m_fewest m_size a_row_57 (lN v) (by first | assumption | omega | decide +kernel) (by first | assumption | omega | decide +kernel) (by first | assumption | omega | decide +kernel) (by first | assumption | omega | decide +kernel) (by first | assumption | omega | decide +kernel) (by first | assumption | omega | decide +kernel) (by first | assumption | omega | decide +kernel) (by first | assumption | omega | decide +kernel)) _)) (fun u H locs hp hPD hS => ?_)
                    obtain ⟨m_told_18, mr_19, rfl, hhz_m_told_20, ht_21⟩ := hp
                    obtain ⟨hP, hD⟩ := hPD rfl
                    have hP : va_P D vwCl (wl_k_X9_often cI cJ cK m0 a_row a_tape a_number a_read a_readBits a_stands a_parted a_bitsWere a_stood a_chosen a_bestChosen a_often a_sorted a_risen a_risenWays 0 (nI m_told_18) (nI m_taped) (nI m_at) (nI m_to) (nI m_many) (nI m_readMany) m_fewest (nI m_size) mn mf_10 mr_19) H := hP
                    have hD : va_D A (wl_k_X9_often cI cJ cK m0 a_row a_tape a_number a_read a_readBits a_stands a_parted a_bitsWere a_stood a_chosen a_bestChosen a_often a_sorted a_risen a_risenWays 0 (nI m_told_18) (nI m_taped) (nI m_at) (nI m_to) (nI m_many) (nI m_readMany) m_fewest (nI m_size) mn mf_10 mr_19) := hD
                    refine lv_aload_n hx hb dX9_often_90 rfl (lv_at hl 2 rfl) ?_
                    refine lv_aload_n hx hb dX9_often_91 rfl (lv_at hl 2 rfl) ?_
                    refine lv_iconst (v := 0) hx hb dX9_often_92 (by decide +kernel) ?_
                    refine lv_iload hx hb dX9_often_93 (lv_at hl 0 rfl) ?_
                    refine my_gpI (my_pV (As := [.int 0, .int (nI v)]) (rest := [.ref m0]) (ci := 9) ⟨hx, hb, hml, hown, hts⟩ (cwV 2 hts gX9_often_X9_times rfl rfl rfl (by decide +kernel) ⟨Nat.le_of_ble_eq_true rfl, Nat.le_of_ble_eq_true rfl⟩) hN hK hP [0, 2] rfl 0 rfl rfl rfl rfl hl.1 rfl (Nat.le_of_ble_eq_true rfl) dX9_often_95 ⟨Nat.le_of_ble_eq_true rfl, Nat.le_of_ble_eq_true rfl⟩  (kt_X9_times l D cI cJ cK m0 a_row a_tape a_number a_read a_readBits a_stands a_parted a_bitsWere a_stood a_chosen a_bestChosen a_often a_sorted a_risen a_risenWays (0 : Int32) m_told_18 m_taped m_at m_to m_many m_readMany m_fewest m_size mf_10 v (cnF mn a_1 b_2) (by first | assumption | omega | decide +kernel) (by first | assumption | omega | decide +kernel) (by first | assumption | omega | decide +kernel) (by first | assumption | omega | decide +kernel) (by first | assumption | omega | decide +kernel) (by first | assumption | omega | decide +kernel) (by first | assumption | omega | decide +kernel) (by first | assumption | omega | decide +kernel) (hcn0) (cnF_64 (by omega)))) (fun r hp => ?_)
                    obtain ⟨t_22, rfl, htm, hq_23⟩ := hp
                    refine lv_i2l (v := lN t_22) hx hb dX9_often_98 (nI_l (by omega)) ?_
                    refine my_goVS (wc := (wl_k_X9_enters cI cJ cK m0 a_row a_tape a_number a_read a_readBits a_stands a_parted a_bitsWere a_stood a_chosen a_bestChosen a_often a_sorted a_risen a_risenWays 0 (nI m_told_18) (nI m_taped) (nI m_at) (nI m_to) (nI m_many) (nI m_readMany) m_fewest (nI m_size) mr_19)) hP hD hS hA [0, 3] rfl [some 0, none, none, some 1] (by decide +kernel) (my_cV (As := [.long (lN t_22)]) (rest := []) (ci := 9) (wc := (wl_k_X9_enters cI cJ cK m0 a_row a_tape a_number a_read a_readBits a_stands a_parted a_bitsWere a_stood a_chosen a_bestChosen a_often a_sorted a_risen a_risenWays 0 (nI m_told_18) (nI m_taped) (nI m_at) (nI m_to) (nI m_many) (nI m_readMany) m_fewest (nI m_size) mr_19)) ⟨hx, hb, hml, hown, hts⟩ (cwV 1 hts gX9_often_X9_enters rfl rfl rfl (by decide +kernel) ⟨Nat.le_of_ble_eq_true rfl, Nat.le_of_ble_eq_true rfl⟩) hN hK hP hD [0, 3] rfl (by decide) rfl 0 rfl rfl rfl rfl hl.1 rfl (Nat.le_of_ble_eq_true rfl) dX9_often_99 ⟨Nat.le_of_ble_eq_true rfl, Nat.le_of_ble_eq_true rfl⟩  ((k_X9_enters l D cI cJ cK m0 a_row a_tape a_number a_read a_readBits a_stands a_parted a_bitsWere a_stood a_chosen a_bestChosen a_often a_sorted a_risen a_risenWays (0 : Int32) m_told_18 m_taped m_at m_to m_many m_readMany m_fewest m_size mr_19 (lN t_22) (by first | assumption | omega | decide +kernel) (by first | assumption | omega | decide +kernel) (by first | assumption | omega | decide +kernel) (by first | assumption | omega | decide +kernel) (by first | assumption | omega | decide +kernel) (by first | assumption | omega | decide +kernel) (by first | assumption | omega | decide +kernel) (by first | assumption | omega | decide +kernel)) _)) (fun u H locs hp hPD hS => ?_)
                    obtain ⟨m_told_24, mr_25, rfl, hhz_m_told_26, ht_27⟩ := hp
                    obtain ⟨hP, hD⟩ := hPD rfl
                    have hP : va_P D vwCl (wl_k_X9_often cI cJ cK m0 a_row a_tape a_number a_read a_readBits a_stands a_parted a_bitsWere a_stood a_chosen a_bestChosen a_often a_sorted a_risen a_risenWays 0 (nI m_told_24) (nI m_taped) (nI m_at) (nI m_to) (nI m_many) (nI m_readMany) m_fewest (nI m_size) mn mf_10 mr_25) H := hP
                    have hD : va_D A (wl_k_X9_often cI cJ cK m0 a_row a_tape a_number a_read a_readBits a_stands a_parted a_bitsWere a_stood a_chosen a_bestChosen a_often a_sorted a_risen a_risenWays 0 (nI m_told_24) (nI m_taped) (nI m_at) (nI m_to) (nI m_many) (nI m_readMany) m_fewest (nI m_size) mn mf_10 mr_25) := hD
                    refine lv_iinc (v := nI (t + 1)) (lv' := [(4, .int (nI (t + 1))), (5, .int (nI v)), (0, .ref m0), (1, .int (nI a_1)), (2, .int (nI b_2)), (3, .int (nI w_9))]) hx hb dX9_often_102 hl (k := 1) rfl (my_incN t 1 (by decide +kernel)) (by decide) rfl (fun ls hl => ?_)
                    refine lv_iinc (v := nI (v + 1)) (lv' := [(5, .int (nI (v + 1))), (4, .int (nI (t + 1))), (0, .ref m0), (1, .int (nI a_1)), (2, .int (nI b_2)), (3, .int (nI w_9))]) hx hb dX9_often_105 hl (k := 1) rfl (my_incN v 1 (by decide +kernel)) (by decide) rfl (fun ls hl => ?_)
                    refine lv_goto (tgt := 57) hx hb dX9_often_108 (by decide) ?_
                    exact ih57  (v + 1) (t + 1) m_told_24 mr_25 (by omega) (by first | assumption | omega | decide +kernel) (by first | assumption | omega | decide +kernel) (by first | assumption | omega | decide +kernel) (by first | exact ct_yes ht (decide_eq_true (by omega)) | exact ct_no ht (decide_eq_false (by omega))) (by first | assumption | omega | decide +kernel) (by first | assumption | omega | decide +kernel) (by first | assumption | omega | decide +kernel) (by first | assumption | omega | decide +kernel) _ _ ls hP hD hS (lv_sub hl [0, 1, 2, 3, 4, 5] rfl)
          exact loop57 ((256 - 0) + 1) 0 0 m_told_12 mr_13 (Nat.lt_succ_self _) (by first | assumption | omega | decide +kernel) (by first | assumption | omega | decide +kernel) (by first | assumption | omega | decide +kernel) (rfl) (by first | assumption | omega | decide +kernel) (by first | assumption | omega | decide +kernel) (by first | assumption | omega | decide +kernel) (by first | assumption | omega | decide +kernel) _ _ ls hP hD hS (lv_sub hl [0, 1, 2, 3, 4, 5] rfl)
        ·
          exact absurd c23 (by decide +kernel)
      ·
        refine lv_if_ne (tgt := 28) hx hb dX9_often_23 (by decide) (fun c23 => ?_) (fun c23 => ?_)
        ·
          exact absurd c23 (by decide +kernel)
        ·
          refine lv_iconst (v := (-1)) hx hb dX9_often_26 (by decide +kernel) ?_
          have hsI_l9 : (nI a_1).toInt = ((a_1 : Nat) : Int) := nI_toInt (by omega)
          have hsN_l9 : (nI a_1).toInt.toNat = a_1 := nIt (by omega)
          have hsI_r9 : (nI b_2).toInt = ((b_2 : Nat) : Int) := nI_toInt (by omega)
          have hsN_r9 : (nI b_2).toInt.toNat = b_2 := nIt (by omega)
          exact my_retI hx hb hr hlocks hK hS (wl_k_X9_often cI cJ cK m0 a_row a_tape a_number a_read a_readBits a_stands a_parted a_bitsWere a_stood a_chosen a_bestChosen a_often a_sorted a_risen a_risenWays 0 (nI m_told) (nI m_taped) (nI m_at) (nI m_to) (nI m_many) (nI m_readMany) m_fewest (nI m_size) mn mf mr) hP hD (Or.inl ⟨0, rfl, rfl, (by first | assumption | omega | trivial | decide +kernel)⟩) dX9_often_27
  ·
    refine lv_if_eq (tgt := 26) hx hb dX9_often_11 (by decide) (fun c11 => ?_) (fun c11 => ?_)
    ·
      refine lv_iconst (v := (-1)) hx hb dX9_often_26 (by decide +kernel) ?_
      exact my_retI hx hb hr hlocks hK hS (wl_k_X9_often cI cJ cK m0 a_row a_tape a_number a_read a_readBits a_stands a_parted a_bitsWere a_stood a_chosen a_bestChosen a_often a_sorted a_risen a_risenWays 0 (nI m_told) (nI m_taped) (nI m_at) (nI m_to) (nI m_many) (nI m_readMany) m_fewest (nI m_size) mn mf mr) hP hD (Or.inl ⟨0, rfl, rfl, (by first | assumption | omega | trivial | decide +kernel)⟩) dX9_often_27
    ·
      exact absurd c11 (by decide +kernel)
abbrev wl_k_X9_mode (cI cJ cK : ClassId) (m0 : Nat) (a_row : Nat) (a_tape : Nat) (a_number : Nat) (a_read : Nat) (a_readBits : Nat) (a_stands : Nat) (a_parted : Nat) (a_bitsWere : Nat) (a_stood : Nat) (a_chosen : Nat) (a_bestChosen : Nat) (a_often : Nat) (a_sorted : Nat) (a_risen : Nat) (a_risenWays : Nat) (v0_ : Int32) (v1_ : Int32) (v2_ : Int32) (v3_ : Int32) (v4_ : Int32) (v5_ : Int32) (v6_ : Int32) (v7_ : Int32) (v8_ : Int32) (v9_ : Nat → Int32) (v10_ : Nat → Int32) (v11_ : Nat → Int64) : va_W := [(m0, .inr (9, [.int v0_, .int v1_, .ref a_row, .ref a_tape, .int v2_, .int v3_, .int v4_, .int v5_, .ref a_number, .ref a_read, .int v6_, .ref a_readBits, .ref a_stands, .ref a_parted, .ref a_bitsWere, .ref a_stood, .ref a_chosen, .ref a_bestChosen, .int v7_, .ref a_often, .ref a_sorted, .int v8_, .ref a_risen, .ref a_risenWays])), (a_number, .inl (cI, 64, .inl v9_)), (a_often, .inl (cI, 512, .inl v10_)), (a_row, .inl (cJ, 64, .inr (.inl v11_)))]
set_option maxHeartbeats 4000000 in
set_option maxRecDepth 100000 in
theorem k_X9_mode (l : Launch) (D : va_G) (cI cJ cK : ClassId) (m0 : Nat) (a_row : Nat) (a_tape : Nat) (a_number : Nat) (a_read : Nat) (a_readBits : Nat) (a_stands : Nat) (a_parted : Nat) (a_bitsWere : Nat) (a_stood : Nat) (a_chosen : Nat) (a_bestChosen : Nat) (a_often : Nat) (a_sorted : Nat) (a_risen : Nat) (a_risenWays : Nat) (m_thrown : Int32) (m_told : Nat) (m_taped : Nat) (m_at : Nat) (m_to : Nat) (m_many : Nat) (m_readMany : Nat) (m_fewest : Int32) (m_size : Nat) (mn : Nat → Int32) (mf : Nat → Int32) (mr : Nat → Int64) (l9 : Int32) (r9 : Int32) (hz_m_told : m_told ≤ 64) (hz_m_taped : m_taped ≤ 100) (hz_m_at : m_at ≤ 100) (hz_m_to : m_to ≤ 100) (hz_m_many : m_many ≤ 64) (hz_m_readMany : m_readMany ≤ 64) (hz_m_size : m_size ≤ 64) (hR_mn : RB 0 255 mn) : ctI l yX9_mode wsX9_mode ({ frames := 1, cells := 0, slots := 0, locals := 60 } : Room) D (tyIJ cI cJ cK) [.ref m0, .int l9, .int r9] (wl_k_X9_mode cI cJ cK m0 a_row a_tape a_number a_read a_readBits a_stands a_parted a_bitsWere a_stood a_chosen a_bestChosen a_often a_sorted a_risen a_risenWays m_thrown (nI m_told) (nI m_taped) (nI m_at) (nI m_to) (nI m_many) (nI m_readMany) m_fewest (nI m_size) mn mf mr) (fun (r : Int32) (u : va_W) => (∃ (m_thrown' : Int32), u = (wl_k_X9_mode cI cJ cK m0 a_row a_tape a_number a_read a_readBits a_stands a_parted a_bitsWere a_stood a_chosen a_bestChosen a_often a_sorted a_risen a_risenWays m_thrown' (nI m_told) (nI m_taped) (nI m_at) (nI m_to) (nI m_many) (nI m_readMany) m_fewest (nI m_size) mn mf mr) ∧ r = (-1) ∧ (l9.toInt < 0 ∨ r9.toInt < l9.toInt ∨ m_many < r9.toInt)) ∨ (∃ (m_thrown' : Int32), u = (wl_k_X9_mode cI cJ cK m0 a_row a_tape a_number a_read a_readBits a_stands a_parted a_bitsWere a_stood a_chosen a_bestChosen a_often a_sorted a_risen a_risenWays m_thrown' (nI m_told) (nI m_taped) (nI m_at) (nI m_to) (nI m_many) (nI m_readMany) m_fewest (nI m_size) mn mf mr) ∧ r = (-2) ∧ 0 ≤ l9.toInt ∧ l9.toInt ≤ r9.toInt ∧ r9.toInt ≤ m_many ∧ l9.toInt = r9.toInt) ∨ (∃ (t' : Nat) (m_thrown' : Int32) (m_told' : Nat) (mf' : Nat → Int32) (mr' : Nat → Int64), u = (wl_k_X9_mode cI cJ cK m0 a_row a_tape a_number a_read a_readBits a_stands a_parted a_bitsWere a_stood a_chosen a_bestChosen a_often a_sorted a_risen a_risenWays m_thrown' (nI m_told') (nI m_taped) (nI m_at) (nI m_to) (nI m_many) (nI m_readMany) m_fewest (nI m_size) mn mf' mr') ∧ r = nI t' ∧ m_told' ≤ 64 ∧ 0 ≤ l9.toInt ∧ l9.toInt ≤ r9.toInt ∧ r9.toInt ≤ m_many ∧ l9.toInt < r9.toInt ∧ t' < 256 ∧ mdP (cnF mn l9.toInt.toNat r9.toInt.toNat) t' 256 ∧ m_told' = 1)) := by
  refine ctI.of (cc := cX9_mode) (maxL := 5) (ret := (some .int)) (by decide) rfl (Nat.le_of_ble_eq_true rfl) ?_
  intro p e s m below meth c ls A hx hb hr hts hown hml hlocks hname hA hK hN hP hD hS hl
  have hl : lv_has ls 5 [(0, .ref m0), (1, .int l9), (2, .int r9)] := hl
  have hown : s.vm.findClass RX9 = some m.cls := hown
  have hi9 : ∀ w ∈ u_ws RX9 TX9 24, w ∈ wsX9_mode := by decide +kernel
  have fl1 := hts (.fieldLink RX9 1 "PlaneColumnModel" "thrown" "I") (by decide +kernel)
  have fl11 := hts (.fieldLink RX9 11 "PlaneColumnModel" "told" "I") (by decide +kernel)
  refine lv_aload_n hx hb dX9_mode_0 rfl (lv_at hl 0 rfl) ?_
  refine lv_iconst (v := 0) hx hb dX9_mode_1 (by decide +kernel) ?_
  refine va_put (ci := 9) (v := .int 0) (ty := (.int)) (C := RX9) (T := TX9) (N := 24) hx hb hts hi9 tyX9 tyX9_ok nmX9 hown hK hP hD hS 0 rfl rfl 0 (by decide) fl1 (fun _ h9 => h9) rfl (by decide +kernel) rfl rfl (Nat.le_of_ble_eq_true rfl) dX9_mode_2 (fun H locs hP hD hS => ?_)
  have hP : va_P D vwCl (wl_k_X9_mode cI cJ cK m0 a_row a_tape a_number a_read a_readBits a_stands a_parted a_bitsWere a_stood a_chosen a_bestChosen a_often a_sorted a_risen a_risenWays 0 (nI m_told) (nI m_taped) (nI m_at) (nI m_to) (nI m_many) (nI m_readMany) m_fewest (nI m_size) mn mf mr) H := hP
  have hD : va_D A (wl_k_X9_mode cI cJ cK m0 a_row a_tape a_number a_read a_readBits a_stands a_parted a_bitsWere a_stood a_chosen a_bestChosen a_often a_sorted a_risen a_risenWays 0 (nI m_told) (nI m_taped) (nI m_at) (nI m_to) (nI m_many) (nI m_readMany) m_fewest (nI m_size) mn mf mr) := hD
  refine lv_aload_n hx hb dX9_mode_5 rfl (lv_at hl 0 rfl) ?_
  refine lv_iload_n hx hb dX9_mode_6 rfl (lv_at hl 1 rfl) ?_
  refine lv_iload_n hx hb dX9_mode_7 rfl (lv_at hl 2 rfl) ?_
  refine my_gpI (my_pV (As := [.int l9, .int r9]) (rest := []) (ci := 9) ⟨hx, hb, hml, hown, hts⟩ (cwV 2 hts gX9_mode_X9_isSpan rfl rfl rfl (by decide +kernel) ⟨Nat.le_of_ble_eq_true rfl, Nat.le_of_ble_eq_true rfl⟩) hN hK hP [0] rfl 0 rfl rfl rfl rfl hl.1 rfl (Nat.le_of_ble_eq_true rfl) dX9_mode_8 ⟨Nat.le_of_ble_eq_true rfl, Nat.le_of_ble_eq_true rfl⟩  (k_X9_isSpan l D cI cJ cK m0 a_row a_tape a_number a_read a_readBits a_stands a_parted a_bitsWere a_stood a_chosen a_bestChosen a_often a_sorted a_risen a_risenWays (0 : Int32) m_told m_taped m_at m_to m_many m_readMany m_fewest m_size l9 r9 (by first | assumption | omega | decide +kernel) (by first | assumption | omega | decide +kernel) (by first | assumption | omega | decide +kernel) (by first | assumption | omega | decide +kernel) (by first | assumption | omega | decide +kernel) (by first | assumption | omega | decide +kernel) (by first | assumption | omega | decide +kernel))) (fun r hp => ?_)
  rcases hp with ⟨a_1, b_2, rfl, rfl, rfl, ha_3, hb_4⟩ | ⟨rfl, ho_5⟩
  ·
    refine lv_if_ne (tgt := 16) hx hb dX9_mode_11 (by decide) (fun c11 => ?_) (fun c11 => ?_)
    ·
      refine lv_iload_n hx hb dX9_mode_16 rfl (lv_at hl 1 rfl) ?_
      refine lv_iload_n hx hb dX9_mode_17 rfl (lv_at hl 2 rfl) ?_
      refine lv_icmp_ne (tgt := 24) hx hb dX9_mode_18 (by decide) (fun c18 => ?_) (fun c18 => ?_)
      ·
        have d18 : ((a_1 : Nat) : Int) ≠ ((b_2 : Nat) : Int) := my_ne c18 (nI_toInt (by omega)) (nI_toInt (by omega))
        refine lv_aload_n hx hb dX9_mode_24 rfl (lv_at hl 0 rfl) ?_
        refine lv_iconst (v := 0) hx hb dX9_mode_25 (by decide +kernel) ?_
        refine lv_iload_n hx hb dX9_mode_26 rfl (lv_at hl 1 rfl) ?_
        refine lv_iload_n hx hb dX9_mode_27 rfl (lv_at hl 2 rfl) ?_
        refine my_goVS (wc := (wl_k0_X9_counts cI cJ cK m0 a_row a_tape a_number a_read a_readBits a_stands a_parted a_bitsWere a_stood a_chosen a_bestChosen a_often a_sorted a_risen a_risenWays 0 (nI m_told) (nI m_taped) (nI m_at) (nI m_to) (nI m_many) (nI m_readMany) m_fewest (nI m_size) mn mf)) hP hD hS hA [0, 1, 2] rfl [some 0, some 1, some 2] (by decide +kernel) (my_cV (As := [.int 0, .int (nI a_1), .int (nI b_2)]) (rest := []) (ci := 9) (wc := (wl_k0_X9_counts cI cJ cK m0 a_row a_tape a_number a_read a_readBits a_stands a_parted a_bitsWere a_stood a_chosen a_bestChosen a_often a_sorted a_risen a_risenWays 0 (nI m_told) (nI m_taped) (nI m_at) (nI m_to) (nI m_many) (nI m_readMany) m_fewest (nI m_size) mn mf)) ⟨hx, hb, hml, hown, hts⟩ (cwV 3 hts gX9_mode_X9_counts rfl rfl rfl (by decide +kernel) ⟨Nat.le_of_ble_eq_true rfl, Nat.le_of_ble_eq_true rfl⟩) hN hK hP hD [0, 1, 2] rfl (by decide) rfl 0 rfl rfl rfl rfl hl.1 rfl (Nat.le_of_ble_eq_true rfl) dX9_mode_28 ⟨Nat.le_of_ble_eq_true rfl, Nat.le_of_ble_eq_true rfl⟩  ((k0_X9_counts l D cI cJ cK m0 a_row a_tape a_number a_read a_readBits a_stands a_parted a_bitsWere a_stood a_chosen a_bestChosen a_often a_sorted a_risen a_risenWays (0 : Int32) m_told m_taped m_at m_to m_many m_readMany m_fewest m_size mn mf a_1 b_2 (by first | assumption | omega | decide +kernel) (by first | assumption | omega | decide +kernel) (by first | assumption | omega | decide +kernel) (by first | assumption | omega | decide +kernel) (by first | assumption | omega | decide +kernel) (by first | assumption | omega | decide +kernel) (by first | assumption | omega | decide +kernel) hR_mn (by first | assumption | omega | decide +kernel) (by first | assumption | omega | decide +kernel)) _)) (fun u H locs hp hPD hS => ?_)
        obtain ⟨mf_6, rfl, hcn0, hco0⟩ := hp
        obtain ⟨hP, hD⟩ := hPD rfl
        have hP : va_P D vwCl (wl_k_X9_mode cI cJ cK m0 a_row a_tape a_number a_read a_readBits a_stands a_parted a_bitsWere a_stood a_chosen a_bestChosen a_often a_sorted a_risen a_risenWays 0 (nI m_told) (nI m_taped) (nI m_at) (nI m_to) (nI m_many) (nI m_readMany) m_fewest (nI m_size) mn mf_6 mr) H := hP
        have hD : va_D A (wl_k_X9_mode cI cJ cK m0 a_row a_tape a_number a_read a_readBits a_stands a_parted a_bitsWere a_stood a_chosen a_bestChosen a_often a_sorted a_risen a_risenWays 0 (nI m_told) (nI m_taped) (nI m_at) (nI m_to) (nI m_many) (nI m_readMany) m_fewest (nI m_size) mn mf_6 mr) := hD
        refine lv_iconst (v := 0) hx hb dX9_mode_31 (by decide +kernel) ?_
        refine lv_istore_n (lv' := [(3, .int 0), (0, .ref m0), (1, .int (nI a_1)), (2, .int (nI b_2))]) hx hb dX9_mode_32 rfl hl (by decide) rfl (fun ls hl => ?_)
        refine lv_iconst (v := 1) hx hb dX9_mode_33 (by decide +kernel) ?_
        refine lv_istore (lv' := [(4, .int 1), (3, .int 0), (0, .ref m0), (1, .int (nI a_1)), (2, .int (nI b_2))]) hx hb dX9_mode_34 hl (by decide) rfl (fun ls hl => ?_)
        have loop36 : ∀ (n9 : Nat) (v : Nat) (ct : Nat), 256 - v < n9 → (ct ≤ 255) → (v ≤ 256) → (1 ≤ v) → (ct < v) → (mdP (cnF mn a_1 b_2) ct v) → ∀ (H : Heap) (locs : List Loc) (ls : Array Slot), va_P D vwCl (wl_k_X9_mode cI cJ cK m0 a_row a_tape a_number a_read a_readBits a_stands a_parted a_bitsWere a_stood a_chosen a_bestChosen a_often a_sorted a_risen a_risenWays 0 (nI m_told) (nI m_taped) (nI m_at) (nI m_to) (nI m_many) (nI m_readMany) m_fewest (nI m_size) mn mf_6 mr) H → va_D A (wl_k_X9_mode cI cJ cK m0 a_row a_tape a_number a_read a_readBits a_stands a_parted a_bitsWere a_stood a_chosen a_bestChosen a_often a_sorted a_risen a_risenWays 0 (nI m_told) (nI m_taped) (nI m_at) (nI m_to) (nI m_many) (nI m_readMany) m_fewest (nI m_size) mn mf_6 mr) → va_S A s.heap H locs → lv_has ls 5 [(4, .int (nI v)), (3, .int (nI ct)), (0, .ref m0), (1, .int (nI a_1)), (2, .int (nI b_2))] → W p l e ({ frames := 1, cells := 0, slots := 0, locals := 60 } : Room) s m [.ref m0, .int (nI a_1), .int (nI b_2)].toArray below meth c H locs 0 0 (MQ below (va_Qi (fun (r : Int32) (u : va_W) => (∃ (m_thrown' : Int32), u = (wl_k_X9_mode cI cJ cK m0 a_row a_tape a_number a_read a_readBits a_stands a_parted a_bitsWere a_stood a_chosen a_bestChosen a_often a_sorted a_risen a_risenWays m_thrown' (nI m_told) (nI m_taped) (nI m_at) (nI m_to) (nI m_many) (nI m_readMany) m_fewest (nI m_size) mn mf mr) ∧ r = (-1) ∧ ((nI a_1).toInt < 0 ∨ (nI b_2).toInt < (nI a_1).toInt ∨ m_many < (nI b_2).toInt)) ∨ (∃ (m_thrown' : Int32), u = (wl_k_X9_mode cI cJ cK m0 a_row a_tape a_number a_read a_readBits a_stands a_parted a_bitsWere a_stood a_chosen a_bestChosen a_often a_sorted a_risen a_risenWays m_thrown' (nI m_told) (nI m_taped) (nI m_at) (nI m_to) (nI m_many) (nI m_readMany) m_fewest (nI m_size) mn mf mr) ∧ r = (-2) ∧ 0 ≤ (nI a_1).toInt ∧ (nI a_1).toInt ≤ (nI b_2).toInt ∧ (nI b_2).toInt ≤ m_many ∧ (nI a_1).toInt = (nI b_2).toInt) ∨ (∃ (t' : Nat) (m_thrown' : Int32) (m_told' : Nat) (mf' : Nat → Int32) (mr' : Nat → Int64), u = (wl_k_X9_mode cI cJ cK m0 a_row a_tape a_number a_read a_readBits a_stands a_parted a_bitsWere a_stood a_chosen a_bestChosen a_often a_sorted a_risen a_risenWays m_thrown' (nI m_told') (nI m_taped) (nI m_at) (nI m_to) (nI m_many) (nI m_readMany) m_fewest (nI m_size) mn mf' mr') ∧ r = nI t' ∧ m_told' ≤ 64 ∧ 0 ≤ (nI a_1).toInt ∧ (nI a_1).toInt ≤ (nI b_2).toInt ∧ (nI b_2).toInt ≤ m_many ∧ (nI a_1).toInt < (nI b_2).toInt ∧ t' < 256 ∧ mdP (cnF mn (nI a_1).toInt.toNat (nI b_2).toInt.toNat) t' 256 ∧ m_told' = 1)) (my_B D (tyIJ cI cJ cK) A) A) [.ref m0, .int (nI a_1), .int (nI b_2)].toArray s 0 0 A) (F0 m 36 ls []) := by
          intro n9
          induction n9 with
          | zero =>
            intro v ct hn9
            exact absurd hn9 (Nat.not_lt_zero _)
          | succ n9 ih36 =>
            intro v ct hn9 hk_ct hk_v hv1 hcv hmd H locs ls hP hD hS hl
            refine lv_iload hx hb dX9_mode_36 (lv_at hl 0 rfl) ?_
            refine lv_sipush (v := 256) hx hb dX9_mode_38 (by decide +kernel) ?_
            refine lv_icmp_ge (tgt := 73) hx hb dX9_mode_41 (by decide) (fun c41 => ?_) (fun c41 => ?_)
            ·
              have d41 : ((v : Nat) : Int) ≥ (256 : Int) := my_ge c41 (nI_toInt (by omega)) (by decide +kernel)
              refine lv_aload_n hx hb dX9_mode_73 rfl (lv_at hl 2 rfl) ?_
              refine lv_iconst (v := 0) hx hb dX9_mode_74 (by decide +kernel) ?_
              refine va_put (ci := 9) (v := .int 0) (ty := (.int)) (C := RX9) (T := TX9) (N := 24) hx hb hts hi9 tyX9 tyX9_ok nmX9 hown hK hP hD hS 0 rfl rfl 1 (by decide) fl11 (fun _ h9 => h9) rfl (by decide +kernel) rfl rfl (Nat.le_of_ble_eq_true rfl) dX9_mode_75 (fun H locs hP hD hS => ?_)
              have hP : va_P D vwCl (wl_k_X9_mode cI cJ cK m0 a_row a_tape a_number a_read a_readBits a_stands a_parted a_bitsWere a_stood a_chosen a_bestChosen a_often a_sorted a_risen a_risenWays 0 0 (nI m_taped) (nI m_at) (nI m_to) (nI m_many) (nI m_readMany) m_fewest (nI m_size) mn mf_6 mr) H := hP
              have hD : va_D A (wl_k_X9_mode cI cJ cK m0 a_row a_tape a_number a_read a_readBits a_stands a_parted a_bitsWere a_stood a_chosen a_bestChosen a_often a_sorted a_risen a_risenWays 0 0 (nI m_taped) (nI m_at) (nI m_to) (nI m_many) (nI m_readMany) m_fewest (nI m_size) mn mf_6 mr) := hD
              refine lv_aload_n hx hb dX9_mode_78 rfl (lv_at hl 2 rfl) ?_
              refine lv_aload_n hx hb dX9_mode_79 rfl (lv_at hl 2 rfl) ?_
              refine lv_iconst (v := 0) hx hb dX9_mode_80 (by decide +kernel) ?_
              refine lv_iload_n hx hb dX9_mode_81 rfl (lv_at hl 1 rfl) ?_
              refine my_gpI (my_pV (As := [.int 0, .int (nI ct)]) (rest := [.ref m0]) (ci := 9) ⟨hx, hb, hml, hown, hts⟩ (cwV 2 hts gX9_mode_X9_times rfl rfl rfl (by decide +kernel) ⟨Nat.le_of_ble_eq_true rfl, Nat.le_of_ble_eq_true rfl⟩) hN hK hP [0, 2] rfl 0 rfl rfl rfl rfl hl.1 rfl (Nat.le_of_ble_eq_true rfl) dX9_mode_82 ⟨Nat.le_of_ble_eq_true rfl, Nat.le_of_ble_eq_true rfl⟩  (kt_X9_times l D cI cJ cK m0 a_row a_tape a_number a_read a_readBits a_stands a_parted a_bitsWere a_stood a_chosen a_bestChosen a_often a_sorted a_risen a_risenWays (0 : Int32) 0 m_taped m_at m_to m_many m_readMany m_fewest m_size mf_6 ct (cnF mn a_1 b_2) (by first | assumption | omega | decide +kernel) (by first | assumption | omega | decide +kernel) (by first | assumption | omega | decide +kernel) (by first | assumption | omega | decide +kernel) (by first | assumption | omega | decide +kernel) (by first | assumption | omega | decide +kernel) (by first | assumption | omega | decide +kernel) (by first | assumption | omega | decide +kernel) (hcn0) (cnF_64 (by omega)))) (fun r hp => ?_)
              obtain ⟨t_7, rfl, htm, hq_8⟩ := hp
              refine lv_i2l (v := lN t_7) hx hb dX9_mode_85 (nI_l (by omega)) ?_
              refine my_goVS (wc := (wl_k_X9_enters cI cJ cK m0 a_row a_tape a_number a_read a_readBits a_stands a_parted a_bitsWere a_stood a_chosen a_bestChosen a_often a_sorted a_risen a_risenWays 0 0 (nI m_taped) (nI m_at) (nI m_to) (nI m_many) (nI m_readMany) m_fewest (nI m_size) mr)) hP hD hS hA [0, 3] rfl [some 0, none, none, some 1] (by decide +kernel) (my_cV (As := [.long (lN t_7)]) (rest := []) (ci := 9) (wc := (wl_k_X9_enters cI cJ cK m0 a_row a_tape a_number a_read a_readBits a_stands a_parted a_bitsWere a_stood a_chosen a_bestChosen a_often a_sorted a_risen a_risenWays 0 0 (nI m_taped) (nI m_at) (nI m_to) (nI m_many) (nI m_readMany) m_fewest (nI m_size) mr)) ⟨hx, hb, hml, hown, hts⟩ (cwV 1 hts gX9_mode_X9_enters rfl rfl rfl (by decide +kernel) ⟨Nat.le_of_ble_eq_true rfl, Nat.le_of_ble_eq_true rfl⟩) hN hK hP hD [0, 3] rfl (by decide) rfl 0 rfl rfl rfl rfl hl.1 rfl (Nat.le_of_ble_eq_true rfl) dX9_mode_86 ⟨Nat.le_of_ble_eq_true rfl, Nat.le_of_ble_eq_true rfl⟩  ((k_X9_enters l D cI cJ cK m0 a_row a_tape a_number a_read a_readBits a_stands a_parted a_bitsWere a_stood a_chosen a_bestChosen a_often a_sorted a_risen a_risenWays (0 : Int32) 0 m_taped m_at m_to m_many m_readMany m_fewest m_size mr (lN t_7) (by first | assumption | omega | decide +kernel) (by first | assumption | omega | decide +kernel) (by first | assumption | omega | decide +kernel) (by first | assumption | omega | decide +kernel) (by first | assumption | omega | decide +kernel) (by first | assumption | omega | decide +kernel) (by first | assumption | omega | decide +kernel) (by first | assumption | omega | decide +kernel)) _)) (fun u H locs hp hPD hS => ?_)
              obtain ⟨m_told_9, mr_10, rfl, hhz_m_told_11, ht_12⟩ := hp
              obtain ⟨hP, hD⟩ := hPD rfl
              have hP : va_P D vwCl (wl_k_X9_mode cI cJ cK m0 a_row a_tape a_number a_read a_readBits a_stands a_parted a_bitsWere a_stood a_chosen a_bestChosen a_often a_sorted a_risen a_risenWays 0 (nI m_told_9) (nI m_taped) (nI m_at) (nI m_to) (nI m_many) (nI m_readMany) m_fewest (nI m_size) mn mf_6 mr_10) H := hP
              have hD : va_D A (wl_k_X9_mode cI cJ cK m0 a_row a_tape a_number a_read a_readBits a_stands a_parted a_bitsWere a_stood a_chosen a_bestChosen a_often a_sorted a_risen a_risenWays 0 (nI m_told_9) (nI m_taped) (nI m_at) (nI m_to) (nI m_many) (nI m_readMany) m_fewest (nI m_size) mn mf_6 mr_10) := hD
              refine lv_iload_n hx hb dX9_mode_89 rfl (lv_at hl 1 rfl) ?_
              have hsI_l9 : (nI a_1).toInt = ((a_1 : Nat) : Int) := nI_toInt (by omega)
              have hsN_l9 : (nI a_1).toInt.toNat = a_1 := nIt (by omega)
              have hsI_r9 : (nI b_2).toInt = ((b_2 : Nat) : Int) := nI_toInt (by omega)
              have hsN_r9 : (nI b_2).toInt.toNat = b_2 := nIt (by omega)
              exact my_retI hx hb hr hlocks hK hS (wl_k_X9_mode cI cJ cK m0 a_row a_tape a_number a_read a_readBits a_stands a_parted a_bitsWere a_stood a_chosen a_bestChosen a_often a_sorted a_risen a_risenWays 0 (nI m_told_9) (nI m_taped) (nI m_at) (nI m_to) (nI m_many) (nI m_readMany) m_fewest (nI m_size) mn mf_6 mr_10) hP hD (Or.inr (Or.inr (⟨ct, 0, m_told_9, mf_6, mr_10, rfl, rfl, (by first | assumption | omega | trivial | decide +kernel), (by first | assumption | omega | trivial | decide +kernel), (by first | assumption | omega | trivial | decide +kernel), (by first | assumption | omega | trivial | decide +kernel), (by first | assumption | omega | trivial | decide +kernel), (by first | assumption | omega | trivial | decide +kernel), (by rw [hsN_l9, hsN_r9]; exact md_mk hmd (by omega)), (by first | assumption | omega | trivial | decide +kernel)⟩))) dX9_mode_90
            ·
              have d41 : ((v : Nat) : Int) < (256 : Int) := my_nge c41 (nI_toInt (by omega)) (by decide +kernel)
              refine lv_aload_n hx hb dX9_mode_44 rfl (lv_at hl 2 rfl) ?_
              refine lv_iconst (v := 0) hx hb dX9_mode_45 (by decide +kernel) ?_
              refine lv_iload hx hb dX9_mode_46 (lv_at hl 0 rfl) ?_
              refine my_gpI (my_pV (As := [.int 0, .int (nI v)]) (rest := []) (ci := 9) ⟨hx, hb, hml, hown, hts⟩ (cwV 2 hts gX9_mode_X9_times rfl rfl rfl (by decide +kernel) ⟨Nat.le_of_ble_eq_true rfl, Nat.le_of_ble_eq_true rfl⟩) hN hK hP [0, 2] rfl 0 rfl rfl rfl rfl hl.1 rfl (Nat.le_of_ble_eq_true rfl) dX9_mode_48 ⟨Nat.le_of_ble_eq_true rfl, Nat.le_of_ble_eq_true rfl⟩  (kt_X9_times l D cI cJ cK m0 a_row a_tape a_number a_read a_readBits a_stands a_parted a_bitsWere a_stood a_chosen a_bestChosen a_often a_sorted a_risen a_risenWays (0 : Int32) m_told m_taped m_at m_to m_many m_readMany m_fewest m_size mf_6 v (cnF mn a_1 b_2) (by first | assumption | omega | decide +kernel) (by first | assumption | omega | decide +kernel) (by first | assumption | omega | decide +kernel) (by first | assumption | omega | decide +kernel) (by first | assumption | omega | decide +kernel) (by first | assumption | omega | decide +kernel) (by first | assumption | omega | decide +kernel) (by first | assumption | omega | decide +kernel) (hcn0) (cnF_64 (by omega)))) (fun r hp => ?_)
              obtain ⟨t_13, rfl, htm, hq_14⟩ := hp
              refine lv_aload_n hx hb dX9_mode_51 rfl (lv_at hl 2 rfl) ?_
              refine lv_iconst (v := 0) hx hb dX9_mode_52 (by decide +kernel) ?_
              refine lv_iload_n hx hb dX9_mode_53 rfl (lv_at hl 1 rfl) ?_
              refine my_gpI (my_pV (As := [.int 0, .int (nI ct)]) (rest := [.int (nI t_13)]) (ci := 9) ⟨hx, hb, hml, hown, hts⟩ (cwV 2 hts gX9_mode_X9_times rfl rfl rfl (by decide +kernel) ⟨Nat.le_of_ble_eq_true rfl, Nat.le_of_ble_eq_true rfl⟩) hN hK hP [0, 2] rfl 0 rfl rfl rfl rfl hl.1 rfl (Nat.le_of_ble_eq_true rfl) dX9_mode_54 ⟨Nat.le_of_ble_eq_true rfl, Nat.le_of_ble_eq_true rfl⟩  (kt_X9_times l D cI cJ cK m0 a_row a_tape a_number a_read a_readBits a_stands a_parted a_bitsWere a_stood a_chosen a_bestChosen a_often a_sorted a_risen a_risenWays (0 : Int32) m_told m_taped m_at m_to m_many m_readMany m_fewest m_size mf_6 ct (cnF mn a_1 b_2) (by first | assumption | omega | decide +kernel) (by first | assumption | omega | decide +kernel) (by first | assumption | omega | decide +kernel) (by first | assumption | omega | decide +kernel) (by first | assumption | omega | decide +kernel) (by first | assumption | omega | decide +kernel) (by first | assumption | omega | decide +kernel) (by first | assumption | omega | decide +kernel) (hcn0) (cnF_64 (by omega)))) (fun r hp => ?_)
              obtain ⟨t_15, rfl, htm, hq_16⟩ := hp
              refine lv_icmp_le (tgt := 65) hx hb dX9_mode_57 (by decide) (fun c57 => ?_) (fun c57 => ?_)
              ·
                have d57 : ((t_13 : Nat) : Int) ≤ ((t_15 : Nat) : Int) := my_le c57 (nI_toInt (by omega)) (nI_toInt (by omega))
                refine lv_iload_n hx hb dX9_mode_65 rfl (lv_at hl 1 rfl) ?_
                refine lv_istore_n (lv' := [(3, .int (nI ct)), (4, .int (nI v)), (0, .ref m0), (1, .int (nI a_1)), (2, .int (nI b_2))]) hx hb dX9_mode_66 rfl hl (by decide) rfl (fun ls hl => ?_)
                refine lv_iinc (v := nI (v + 1)) (lv' := [(4, .int (nI (v + 1))), (3, .int (nI ct)), (0, .ref m0), (1, .int (nI a_1)), (2, .int (nI b_2))]) hx hb dX9_mode_67 hl (k := 1) rfl (my_incN v 1 (by decide +kernel)) (by decide) rfl (fun ls hl => ?_)
                refine lv_goto (tgt := 36) hx hb dX9_mode_70 (by decide) ?_
                exact ih36  (v + 1) ct (by omega) (by first | assumption | omega | decide +kernel) (by first | assumption | omega | decide +kernel) (by first | assumption | omega | decide +kernel) (by first | assumption | omega | decide +kernel) (by first | exact md_old hmd (by omega) | exact md_new hmd (by omega)) _ _ ls hP hD hS (lv_sub hl [0, 1, 2, 3, 4] rfl)
              ·
                have d57 : ((t_13 : Nat) : Int) > ((t_15 : Nat) : Int) := my_nle c57 (nI_toInt (by omega)) (nI_toInt (by omega))
                refine lv_iload hx hb dX9_mode_60 (lv_at hl 0 rfl) ?_
                refine lv_goto (tgt := 66) hx hb dX9_mode_62 (by decide) ?_
                refine lv_istore_n (lv' := [(3, .int (nI v)), (4, .int (nI v)), (0, .ref m0), (1, .int (nI a_1)), (2, .int (nI b_2))]) hx hb dX9_mode_66 rfl hl (by decide) rfl (fun ls hl => ?_)
                refine lv_iinc (v := nI (v + 1)) (lv' := [(4, .int (nI (v + 1))), (3, .int (nI v)), (0, .ref m0), (1, .int (nI a_1)), (2, .int (nI b_2))]) hx hb dX9_mode_67 hl (k := 1) rfl (my_incN v 1 (by decide +kernel)) (by decide) rfl (fun ls hl => ?_)
                refine lv_goto (tgt := 36) hx hb dX9_mode_70 (by decide) ?_
                exact ih36  (v + 1) v (by omega) (by first | assumption | omega | decide +kernel) (by first | assumption | omega | decide +kernel) (by first | assumption | omega | decide +kernel) (by first | assumption | omega | decide +kernel) (by first | exact md_old hmd (by omega) | exact md_new hmd (by omega)) _ _ ls hP hD hS (lv_sub hl [0, 1, 2, 3, 4] rfl)
        exact loop36 ((256 - 1) + 1) 1 0 (Nat.lt_succ_self _) (by first | assumption | omega | decide +kernel) (by first | assumption | omega | decide +kernel) (by first | assumption | omega | decide +kernel) (by first | assumption | omega | decide +kernel) (md_0) _ _ ls hP hD hS (lv_sub hl [0, 1, 2, 3, 4] rfl)
      ·
        have d18 : ((a_1 : Nat) : Int) = ((b_2 : Nat) : Int) := my_eq c18 (nI_toInt (by omega)) (nI_toInt (by omega))
        refine lv_bipush (v := (-2)) hx hb dX9_mode_21 (by decide +kernel) ?_
        have hsI_l9 : (nI a_1).toInt = ((a_1 : Nat) : Int) := nI_toInt (by omega)
        have hsN_l9 : (nI a_1).toInt.toNat = a_1 := nIt (by omega)
        have hsI_r9 : (nI b_2).toInt = ((b_2 : Nat) : Int) := nI_toInt (by omega)
        have hsN_r9 : (nI b_2).toInt.toNat = b_2 := nIt (by omega)
        exact my_retI hx hb hr hlocks hK hS (wl_k_X9_mode cI cJ cK m0 a_row a_tape a_number a_read a_readBits a_stands a_parted a_bitsWere a_stood a_chosen a_bestChosen a_often a_sorted a_risen a_risenWays 0 (nI m_told) (nI m_taped) (nI m_at) (nI m_to) (nI m_many) (nI m_readMany) m_fewest (nI m_size) mn mf mr) hP hD (Or.inr (Or.inl ⟨0, rfl, rfl, (by first | assumption | omega | trivial | decide +kernel), (by first | assumption | omega | trivial | decide +kernel), (by first | assumption | omega | trivial | decide +kernel), (by first | assumption | omega | trivial | decide +kernel)⟩)) dX9_mode_23
    ·
      exact absurd c11 (by decide +kernel)
  ·
    refine lv_if_ne (tgt := 16) hx hb dX9_mode_11 (by decide) (fun c11 => ?_) (fun c11 => ?_)
    ·
      exact absurd c11 (by decide +kernel)
    ·
      refine lv_iconst (v := (-1)) hx hb dX9_mode_14 (by decide +kernel) ?_
      exact my_retI hx hb hr hlocks hK hS (wl_k_X9_mode cI cJ cK m0 a_row a_tape a_number a_read a_readBits a_stands a_parted a_bitsWere a_stood a_chosen a_bestChosen a_often a_sorted a_risen a_risenWays 0 (nI m_told) (nI m_taped) (nI m_at) (nI m_to) (nI m_many) (nI m_readMany) m_fewest (nI m_size) mn mf mr) hP hD (Or.inl ⟨0, rfl, rfl, (by first | assumption | omega | trivial | decide +kernel)⟩) dX9_mode_15
