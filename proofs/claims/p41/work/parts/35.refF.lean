theorem mx_any {R : Nat → Nat} {t u w k : Nat} (h : mxP R t k) (hu : u = R k) (hw : (w = t ∧ u ≤ t) ∨ (w = u ∧ t ≤ u)) : mxP R w (k + 1) := by
  rcases hw with ⟨rfl, h2⟩ | ⟨rfl, h2⟩
  · exact mx_old h hu h2
  · exact mx_new h hu h2
abbrev wl_k_X9_across (cI cJ cK : ClassId) (m0 : Nat) (a_row : Nat) (a_tape : Nat) (a_number : Nat) (a_read : Nat) (a_readBits : Nat) (a_stands : Nat) (a_parted : Nat) (a_bitsWere : Nat) (a_stood : Nat) (a_chosen : Nat) (a_bestChosen : Nat) (a_often : Nat) (a_sorted : Nat) (a_risen : Nat) (a_risenWays : Nat) (v0_ : Int32) (v1_ : Int32) (v2_ : Int32) (v3_ : Int32) (v4_ : Int32) (v5_ : Int32) (v6_ : Int32) (v7_ : Int32) (v8_ : Int32) (v9_ : Nat → Int32) (v10_ : Nat → Int32) (v11_ : Nat → Int64) : va_W := [(m0, .inr (9, [.int v0_, .int v1_, .ref a_row, .ref a_tape, .int v2_, .int v3_, .int v4_, .int v5_, .ref a_number, .ref a_read, .int v6_, .ref a_readBits, .ref a_stands, .ref a_parted, .ref a_bitsWere, .ref a_stood, .ref a_chosen, .ref a_bestChosen, .int v7_, .ref a_often, .ref a_sorted, .int v8_, .ref a_risen, .ref a_risenWays])), (a_number, .inl (cI, 64, .inl v9_)), (a_often, .inl (cI, 512, .inl v10_)), (a_row, .inl (cJ, 64, .inr (.inl v11_)))]
set_option maxHeartbeats 4000000 in
set_option maxRecDepth 100000 in
theorem k_X9_across (l : Launch) (D : va_G) (cI cJ cK : ClassId) (m0 : Nat) (a_row : Nat) (a_tape : Nat) (a_number : Nat) (a_read : Nat) (a_readBits : Nat) (a_stands : Nat) (a_parted : Nat) (a_bitsWere : Nat) (a_stood : Nat) (a_chosen : Nat) (a_bestChosen : Nat) (a_often : Nat) (a_sorted : Nat) (a_risen : Nat) (a_risenWays : Nat) (m_thrown : Int32) (m_told : Nat) (m_taped : Nat) (m_at : Nat) (m_to : Nat) (m_many : Nat) (m_readMany : Nat) (m_fewest : Int32) (m_size : Nat) (mn : Nat → Int32) (mf : Nat → Int32) (mr : Nat → Int64) (l9 : Int32) (r9 : Int32) (w9 : Int32) (k9 : Int32) (hz_m_told : m_told ≤ 64) (hz_m_taped : m_taped ≤ 100) (hz_m_at : m_at ≤ 100) (hz_m_to : m_to ≤ 100) (hz_m_many : m_many ≤ 64) (hz_m_readMany : m_readMany ≤ 64) (hz_m_size : m_size ≤ 64) (hR_mn : RB 0 255 mn) : ctI l yX9_across wsX9_across ({ frames := 2, cells := 0, slots := 0, locals := 120 } : Room) D (tyIJ cI cJ cK) [.ref m0, .int l9, .int r9, .int w9, .int k9] (wl_k_X9_across cI cJ cK m0 a_row a_tape a_number a_read a_readBits a_stands a_parted a_bitsWere a_stood a_chosen a_bestChosen a_often a_sorted a_risen a_risenWays m_thrown (nI m_told) (nI m_taped) (nI m_at) (nI m_to) (nI m_many) (nI m_readMany) m_fewest (nI m_size) mn mf mr) (fun (r : Int32) (u : va_W) => (∃ (m_thrown' : Int32), u = (wl_k_X9_across cI cJ cK m0 a_row a_tape a_number a_read a_readBits a_stands a_parted a_bitsWere a_stood a_chosen a_bestChosen a_often a_sorted a_risen a_risenWays m_thrown' (nI m_told) (nI m_taped) (nI m_at) (nI m_to) (nI m_many) (nI m_readMany) m_fewest (nI m_size) mn mf mr) ∧ r = (-1) ∧ (l9.toInt < 0 ∨ r9.toInt < l9.toInt ∨ m_many < r9.toInt ∨ w9.toInt < 0 ∨ 255 < w9.toInt ∨ k9.toInt < 0)) ∨ (∃ (m_thrown' : Int32) (m_told' : Nat) (mf' : Nat → Int32) (mr' : Nat → Int64), u = (wl_k_X9_across cI cJ cK m0 a_row a_tape a_number a_read a_readBits a_stands a_parted a_bitsWere a_stood a_chosen a_bestChosen a_often a_sorted a_risen a_risenWays m_thrown' (nI m_told') (nI m_taped) (nI m_at) (nI m_to) (nI m_many) (nI m_readMany) m_fewest (nI m_size) mn mf' mr') ∧ r = (-2) ∧ m_told' ≤ 64 ∧ 0 ≤ l9.toInt ∧ l9.toInt ≤ r9.toInt ∧ r9.toInt ≤ m_many ∧ 0 ≤ w9.toInt ∧ w9.toInt ≤ 255 ∧ r9.toInt - l9.toInt ≤ k9.toInt ∧ m_told' = m_told) ∨ (∃ (t' : Nat) (m_thrown' : Int32) (m_told' : Nat) (mf' : Nat → Int32) (mr' : Nat → Int64), u = (wl_k_X9_across cI cJ cK m0 a_row a_tape a_number a_read a_readBits a_stands a_parted a_bitsWere a_stood a_chosen a_bestChosen a_often a_sorted a_risen a_risenWays m_thrown' (nI m_told') (nI m_taped) (nI m_at) (nI m_to) (nI m_many) (nI m_readMany) m_fewest (nI m_size) mn mf' mr') ∧ r = nI t' ∧ m_told' ≤ 64 ∧ 0 ≤ l9.toInt ∧ l9.toInt ≤ r9.toInt ∧ r9.toInt ≤ m_many ∧ 0 ≤ w9.toInt ∧ w9.toInt ≤ 255 ∧ 0 ≤ k9.toInt ∧ t' < 256 ∧ k9.toInt < r9.toInt - l9.toInt ∧ axP (cnF mn l9.toInt.toNat r9.toInt.toNat) w9.toInt.toNat k9.toInt.toNat t' ∧ m_told' = 1)) := by
  refine ctI.of (cc := cX9_across) (maxL := 7) (ret := (some .int)) (by decide) rfl (Nat.le_of_ble_eq_true rfl) ?_
  intro p e s m below meth c ls A hx hb hr hts hown hml hlocks hname hA hK hN hP hD hS hl
  have hl : lv_has ls 7 [(0, .ref m0), (1, .int l9), (2, .int r9), (3, .int w9), (4, .int k9)] := hl
  have hown : s.vm.findClass RX9 = some m.cls := hown
  have hi9 : ∀ w ∈ u_ws RX9 TX9 24, w ∈ wsX9_across := by decide +kernel
  have fl1 := hts (.fieldLink RX9 1 "PlaneColumnModel" "thrown" "I") (by decide +kernel)
  have fl11 := hts (.fieldLink RX9 11 "PlaneColumnModel" "told" "I") (by decide +kernel)
  refine lv_aload_n hx hb dX9_across_0 rfl (lv_at hl 0 rfl) ?_
  refine lv_iconst (v := 0) hx hb dX9_across_1 (by decide +kernel) ?_
  refine va_put (ci := 9) (v := .int 0) (ty := (.int)) (C := RX9) (T := TX9) (N := 24) hx hb hts hi9 tyX9 tyX9_ok nmX9 hown hK hP hD hS 0 rfl rfl 0 (by decide) fl1 (fun _ h9 => h9) rfl (by decide +kernel) rfl rfl (Nat.le_of_ble_eq_true rfl) dX9_across_2 (fun H locs hP hD hS => ?_)
  have hP : va_P D vwCl (wl_k_X9_across cI cJ cK m0 a_row a_tape a_number a_read a_readBits a_stands a_parted a_bitsWere a_stood a_chosen a_bestChosen a_often a_sorted a_risen a_risenWays 0 (nI m_told) (nI m_taped) (nI m_at) (nI m_to) (nI m_many) (nI m_readMany) m_fewest (nI m_size) mn mf mr) H := hP
  have hD : va_D A (wl_k_X9_across cI cJ cK m0 a_row a_tape a_number a_read a_readBits a_stands a_parted a_bitsWere a_stood a_chosen a_bestChosen a_often a_sorted a_risen a_risenWays 0 (nI m_told) (nI m_taped) (nI m_at) (nI m_to) (nI m_many) (nI m_readMany) m_fewest (nI m_size) mn mf mr) := hD
  refine lv_aload_n hx hb dX9_across_5 rfl (lv_at hl 0 rfl) ?_
  refine lv_iload_n hx hb dX9_across_6 rfl (lv_at hl 1 rfl) ?_
  refine lv_iload_n hx hb dX9_across_7 rfl (lv_at hl 2 rfl) ?_
  refine my_gpI (my_pV (As := [.int l9, .int r9]) (rest := []) (ci := 9) ⟨hx, hb, hml, hown, hts⟩ (cwV 2 hts gX9_across_X9_isSpan rfl rfl rfl (by decide +kernel) ⟨Nat.le_of_ble_eq_true rfl, Nat.le_of_ble_eq_true rfl⟩) hN hK hP [0] rfl 0 rfl rfl rfl rfl hl.1 rfl (Nat.le_of_ble_eq_true rfl) dX9_across_8 ⟨Nat.le_of_ble_eq_true rfl, Nat.le_of_ble_eq_true rfl⟩  (k_X9_isSpan l D cI cJ cK m0 a_row a_tape a_number a_read a_readBits a_stands a_parted a_bitsWere a_stood a_chosen a_bestChosen a_often a_sorted a_risen a_risenWays (0 : Int32) m_told m_taped m_at m_to m_many m_readMany m_fewest m_size l9 r9 (by first | assumption | omega | decide +kernel) (by first | assumption | omega | decide +kernel) (by first | assumption | omega | decide +kernel) (by first | assumption | omega | decide +kernel) (by first | assumption | omega | decide +kernel) (by first | assumption | omega | decide +kernel) (by first | assumption | omega | decide +kernel))) (fun r hp => ?_)
  rcases hp with ⟨a_1, b_2, rfl, rfl, rfl, ha_3, hb_4⟩ | ⟨rfl, ho_5⟩
  ·
    refine lv_if_eq (tgt := 26) hx hb dX9_across_11 (by decide) (fun c11 => ?_) (fun c11 => ?_)
    ·
      exact absurd c11 (by decide +kernel)
    ·
      refine lv_iload_n hx hb dX9_across_14 rfl (lv_at hl 3 rfl) ?_
      refine my_gpI (my_pS (As := [.int w9]) (rest := []) ⟨hx, hb, hml, hown, hts⟩ (va_cwS 1 hts gX9_across_X9_isNumber rfl rfl rfl (by decide +kernel) ⟨Nat.le_of_ble_eq_true rfl, Nat.le_of_ble_eq_true rfl⟩) hN hK hP [] rfl rfl hl.1 rfl (Nat.le_of_ble_eq_true rfl) dX9_across_15 ⟨Nat.le_of_ble_eq_true rfl, Nat.le_of_ble_eq_true rfl⟩  (k_X9_isNumber l D cI cJ cK w9)) (fun r hp => ?_)
      rcases hp with ⟨k_6, rfl, rfl, ha_7⟩ | ⟨rfl, ho_8⟩
      ·
        refine lv_if_eq (tgt := 26) hx hb dX9_across_18 (by decide) (fun c18 => ?_) (fun c18 => ?_)
        ·
          exact absurd c18 (by decide +kernel)
        ·
          refine lv_iload hx hb dX9_across_21 (lv_at hl 4 rfl) ?_
          refine lv_if_ge (tgt := 28) hx hb dX9_across_23 (by decide) (fun c23 => ?_) (fun c23 => ?_)
          ·
            have d23 : k9.toInt ≥ (0 : Int) := my_ge c23 rfl (by decide +kernel)
            obtain ⟨w_9, rfl, hw_9⟩ := my_natP (x := k9) (by omega)
            have hlw_9 : w_9 < 2147483648 := by have h9 := Int32.toInt_lt (nI w_9); omega
            refine lv_iload hx hb dX9_across_28 (lv_at hl 4 rfl) ?_
            refine lv_iload_n hx hb dX9_across_30 rfl (lv_at hl 2 rfl) ?_
            refine lv_iload_n hx hb dX9_across_31 rfl (lv_at hl 1 rfl) ?_
            refine lv_isub hx hb dX9_across_32 ?_
            refine lv_topi (fun z_10 ez_10 => ?_)
            try have tz_10 : z_10.toInt = ((b_2 : Nat) : Int) - ((a_1 : Nat) : Int) := by rw [ez_10]; exact my_subI (nI_toInt (by omega)) (nI_toInt (by omega)) (by omega) (by omega)
            refine lv_icmp_lt (tgt := 39) hx hb dX9_across_33 (by decide) (fun c33 => ?_) (fun c33 => ?_)
            ·
              have d33 : ((w_9 : Nat) : Int) < z_10.toInt := my_lt c33 (nI_toInt (by omega)) rfl
              refine lv_aload_n hx hb dX9_across_39 rfl (lv_at hl 0 rfl) ?_
              refine lv_iconst (v := 0) hx hb dX9_across_40 (by decide +kernel) ?_
              refine lv_iload_n hx hb dX9_across_41 rfl (lv_at hl 1 rfl) ?_
              refine lv_iload_n hx hb dX9_across_42 rfl (lv_at hl 2 rfl) ?_
              refine my_goVS (wc := (wl_k0_X9_counts cI cJ cK m0 a_row a_tape a_number a_read a_readBits a_stands a_parted a_bitsWere a_stood a_chosen a_bestChosen a_often a_sorted a_risen a_risenWays 0 (nI m_told) (nI m_taped) (nI m_at) (nI m_to) (nI m_many) (nI m_readMany) m_fewest (nI m_size) mn mf)) hP hD hS hA [0, 1, 2] rfl [some 0, some 1, some 2] (by decide +kernel) (my_cV (As := [.int 0, .int (nI a_1), .int (nI b_2)]) (rest := []) (ci := 9) (wc := (wl_k0_X9_counts cI cJ cK m0 a_row a_tape a_number a_read a_readBits a_stands a_parted a_bitsWere a_stood a_chosen a_bestChosen a_often a_sorted a_risen a_risenWays 0 (nI m_told) (nI m_taped) (nI m_at) (nI m_to) (nI m_many) (nI m_readMany) m_fewest (nI m_size) mn mf)) ⟨hx, hb, hml, hown, hts⟩ (cwV 3 hts gX9_across_X9_counts rfl rfl rfl (by decide +kernel) ⟨Nat.le_of_ble_eq_true rfl, Nat.le_of_ble_eq_true rfl⟩) hN hK hP hD [0, 1, 2] rfl (by decide) rfl 0 rfl rfl rfl rfl hl.1 rfl (Nat.le_of_ble_eq_true rfl) dX9_across_43 ⟨Nat.le_of_ble_eq_true rfl, Nat.le_of_ble_eq_true rfl⟩  ((k0_X9_counts l D cI cJ cK m0 a_row a_tape a_number a_read a_readBits a_stands a_parted a_bitsWere a_stood a_chosen a_bestChosen a_often a_sorted a_risen a_risenWays (0 : Int32) m_told m_taped m_at m_to m_many m_readMany m_fewest m_size mn mf a_1 b_2 (by first | assumption | omega | decide +kernel) (by first | assumption | omega | decide +kernel) (by first | assumption | omega | decide +kernel) (by first | assumption | omega | decide +kernel) (by first | assumption | omega | decide +kernel) (by first | assumption | omega | decide +kernel) (by first | assumption | omega | decide +kernel) hR_mn (by first | assumption | omega | decide +kernel) (by first | assumption | omega | decide +kernel)) _)) (fun u H locs hp hPD hS => ?_)
              obtain ⟨mf_11, rfl, hcn0, hco0⟩ := hp
              obtain ⟨hP, hD⟩ := hPD rfl
              have hP : va_P D vwCl (wl_k_X9_across cI cJ cK m0 a_row a_tape a_number a_read a_readBits a_stands a_parted a_bitsWere a_stood a_chosen a_bestChosen a_often a_sorted a_risen a_risenWays 0 (nI m_told) (nI m_taped) (nI m_at) (nI m_to) (nI m_many) (nI m_readMany) m_fewest (nI m_size) mn mf_11 mr) H := hP
              have hD : va_D A (wl_k_X9_across cI cJ cK m0 a_row a_tape a_number a_read a_readBits a_stands a_parted a_bitsWere a_stood a_chosen a_bestChosen a_often a_sorted a_risen a_risenWays 0 (nI m_told) (nI m_taped) (nI m_at) (nI m_to) (nI m_many) (nI m_readMany) m_fewest (nI m_size) mn mf_11 mr) := hD
              refine lv_iload hx hb dX9_across_46 (lv_at hl 4 rfl) ?_
              refine lv_istore (lv' := [(5, .int (nI w_9)), (0, .ref m0), (1, .int (nI a_1)), (2, .int (nI b_2)), (3, .int (nI k_6)), (4, .int (nI w_9))]) hx hb dX9_across_48 hl (by decide) rfl (fun ls hl => ?_)
              refine lv_iconst (v := 0) hx hb dX9_across_50 (by decide +kernel) ?_
              refine lv_istore (lv' := [(6, .int 0), (5, .int (nI w_9)), (0, .ref m0), (1, .int (nI a_1)), (2, .int (nI b_2)), (3, .int (nI k_6)), (4, .int (nI w_9))]) hx hb dX9_across_51 hl (by decide) rfl (fun ls hl => ?_)
              have loop53 : ∀ (n9 : Nat) (v : Nat) (t : Nat), 256 - v < n9 → (t ≤ 64) → (v ≤ 255) → (t + fb_sm (axF (cnF mn a_1 b_2) k_6) v = w_9) → ∀ (H : Heap) (locs : List Loc) (ls : Array Slot), va_P D vwCl (wl_k_X9_across cI cJ cK m0 a_row a_tape a_number a_read a_readBits a_stands a_parted a_bitsWere a_stood a_chosen a_bestChosen a_often a_sorted a_risen a_risenWays 0 (nI m_told) (nI m_taped) (nI m_at) (nI m_to) (nI m_many) (nI m_readMany) m_fewest (nI m_size) mn mf_11 mr) H → va_D A (wl_k_X9_across cI cJ cK m0 a_row a_tape a_number a_read a_readBits a_stands a_parted a_bitsWere a_stood a_chosen a_bestChosen a_often a_sorted a_risen a_risenWays 0 (nI m_told) (nI m_taped) (nI m_at) (nI m_to) (nI m_many) (nI m_readMany) m_fewest (nI m_size) mn mf_11 mr) → va_S A s.heap H locs → lv_has ls 7 [(6, .int (nI v)), (5, .int (nI t)), (0, .ref m0), (1, .int (nI a_1)), (2, .int (nI b_2)), (3, .int (nI k_6)), (4, .int (nI w_9))] → W p l e ({ frames := 2, cells := 0, slots := 0, locals := 120 } : Room) s m [.ref m0, .int (nI a_1), .int (nI b_2), .int (nI k_6), .int (nI w_9)].toArray below meth c H locs 0 0 (MQ below (va_Qi (fun (r : Int32) (u : va_W) => (∃ (m_thrown' : Int32), u = (wl_k_X9_across cI cJ cK m0 a_row a_tape a_number a_read a_readBits a_stands a_parted a_bitsWere a_stood a_chosen a_bestChosen a_often a_sorted a_risen a_risenWays m_thrown' (nI m_told) (nI m_taped) (nI m_at) (nI m_to) (nI m_many) (nI m_readMany) m_fewest (nI m_size) mn mf mr) ∧ r = (-1) ∧ ((nI a_1).toInt < 0 ∨ (nI b_2).toInt < (nI a_1).toInt ∨ m_many < (nI b_2).toInt ∨ (nI k_6).toInt < 0 ∨ 255 < (nI k_6).toInt ∨ (nI w_9).toInt < 0)) ∨ (∃ (m_thrown' : Int32) (m_told' : Nat) (mf' : Nat → Int32) (mr' : Nat → Int64), u = (wl_k_X9_across cI cJ cK m0 a_row a_tape a_number a_read a_readBits a_stands a_parted a_bitsWere a_stood a_chosen a_bestChosen a_often a_sorted a_risen a_risenWays m_thrown' (nI m_told') (nI m_taped) (nI m_at) (nI m_to) (nI m_many) (nI m_readMany) m_fewest (nI m_size) mn mf' mr') ∧ r = (-2) ∧ m_told' ≤ 64 ∧ 0 ≤ (nI a_1).toInt ∧ (nI a_1).toInt ≤ (nI b_2).toInt ∧ (nI b_2).toInt ≤ m_many ∧ 0 ≤ (nI k_6).toInt ∧ (nI k_6).toInt ≤ 255 ∧ (nI b_2).toInt - (nI a_1).toInt ≤ (nI w_9).toInt ∧ m_told' = m_told) ∨ (∃ (t' : Nat) (m_thrown' : Int32) (m_told' : Nat) (mf' : Nat → Int32) (mr' : Nat → Int64), u = (wl_k_X9_across cI cJ cK m0 a_row a_tape a_number a_read a_readBits a_stands a_parted a_bitsWere a_stood a_chosen a_bestChosen a_often a_sorted a_risen a_risenWays m_thrown' (nI m_told') (nI m_taped) (nI m_at) (nI m_to) (nI m_many) (nI m_readMany) m_fewest (nI m_size) mn mf' mr') ∧ r = nI t' ∧ m_told' ≤ 64 ∧ 0 ≤ (nI a_1).toInt ∧ (nI a_1).toInt ≤ (nI b_2).toInt ∧ (nI b_2).toInt ≤ m_many ∧ 0 ≤ (nI k_6).toInt ∧ (nI k_6).toInt ≤ 255 ∧ 0 ≤ (nI w_9).toInt ∧ t' < 256 ∧ (nI w_9).toInt < (nI b_2).toInt - (nI a_1).toInt ∧ axP (cnF mn (nI a_1).toInt.toNat (nI b_2).toInt.toNat) (nI k_6).toInt.toNat (nI w_9).toInt.toNat t' ∧ m_told' = 1)) (my_B D (tyIJ cI cJ cK) A) A) [.ref m0, .int (nI a_1), .int (nI b_2), .int (nI k_6), .int (nI w_9)].toArray s 0 0 A) (F0 m 53 ls []) := by
                intro n9
                induction n9 with
                | zero =>
                  intro v t hn9
                  exact absurd hn9 (Nat.not_lt_zero _)
                | succ n9 ih53 =>
                  intro v t hn9 hk_t hk_v ht H locs ls hP hD hS hl
                  have hsc := fb_sm_succ (axF (cnF mn a_1 b_2) k_6) v
                  have hsm := axF_sum hR_mn (x := k_6) (a := a_1) (b := b_2) (by omega) (by omega)
                  have hmo := sm_mono (axF (cnF mn a_1 b_2) k_6) (show v + 1 ≤ 256 by omega)
                  have e9 : (axF (cnF mn a_1 b_2) k_6) v = (cnF mn a_1 b_2) (v ^^^ k_6) := rfl
                  have h255 : v = 255 → fb_sm (axF (cnF mn a_1 b_2) k_6) (v + 1) = fb_sm (axF (cnF mn a_1 b_2) k_6) 256 := fun h => by rw [h]
                  refine lv_aload_n hx hb dX9_across_53 rfl (lv_at hl 2 rfl) ?_
                  refine lv_iconst (v := 0) hx hb dX9_across_54 (by decide +kernel) ?_
                  refine lv_iload hx hb dX9_across_55 (lv_at hl 0 rfl) ?_
                  refine lv_iload_n hx hb dX9_across_57 rfl (lv_at hl 5 rfl) ?_
                  refine lv_ixor hx hb dX9_across_58 ?_
                  refine my_eqi (y := nI (v ^^^ k_6)) (fb_xorI _ _) ?_
                  try have hxl_12 : v ^^^ k_6 < 256 := Nat.xor_lt_two_pow (n := 8) (by omega) (by omega)
                  refine my_gpI (my_pV (As := [.int 0, .int (nI (v ^^^ k_6))]) (rest := []) (ci := 9) ⟨hx, hb, hml, hown, hts⟩ (cwV 2 hts gX9_across_X9_times rfl rfl rfl (by decide +kernel) ⟨Nat.le_of_ble_eq_true rfl, Nat.le_of_ble_eq_true rfl⟩) hN hK hP [0, 2] rfl 0 rfl rfl rfl rfl hl.1 rfl (Nat.le_of_ble_eq_true rfl) dX9_across_59 ⟨Nat.le_of_ble_eq_true rfl, Nat.le_of_ble_eq_true rfl⟩  (kt_X9_times l D cI cJ cK m0 a_row a_tape a_number a_read a_readBits a_stands a_parted a_bitsWere a_stood a_chosen a_bestChosen a_often a_sorted a_risen a_risenWays (0 : Int32) m_told m_taped m_at m_to m_many m_readMany m_fewest m_size mf_11 (v ^^^ k_6) (cnF mn a_1 b_2) (by first | assumption | omega | decide +kernel) (by first | assumption | omega | decide +kernel) (by first | assumption | omega | decide +kernel) (by first | assumption | omega | decide +kernel) (by first | assumption | omega | decide +kernel) (by first | assumption | omega | decide +kernel) (by first | assumption | omega | decide +kernel) (by first | assumption | omega | decide +kernel) (hcn0) (cnF_64 (by omega)))) (fun r hp => ?_)
                  obtain ⟨t_13, rfl, htm, hq_14⟩ := hp
                  refine lv_iload hx hb dX9_across_62 (lv_at hl 1 rfl) ?_
                  refine lv_icmp_gt (tgt := 87) hx hb dX9_across_64 (by decide) (fun c64 => ?_) (fun c64 => ?_)
                  ·
                    have d64 : ((t_13 : Nat) : Int) > ((t : Nat) : Int) := my_gt c64 (nI_toInt (by omega)) (nI_toInt (by omega))
                    refine lv_aload_n hx hb dX9_across_87 rfl (lv_at hl 2 rfl) ?_
                    refine lv_iconst (v := 0) hx hb dX9_across_88 (by decide +kernel) ?_
                    refine va_put (ci := 9) (v := .int 0) (ty := (.int)) (C := RX9) (T := TX9) (N := 24) hx hb hts hi9 tyX9 tyX9_ok nmX9 hown hK hP hD hS 0 rfl rfl 1 (by decide) fl11 (fun _ h9 => h9) rfl (by decide +kernel) rfl rfl (Nat.le_of_ble_eq_true rfl) dX9_across_89 (fun H locs hP hD hS => ?_)
                    have hP : va_P D vwCl (wl_k_X9_across cI cJ cK m0 a_row a_tape a_number a_read a_readBits a_stands a_parted a_bitsWere a_stood a_chosen a_bestChosen a_often a_sorted a_risen a_risenWays 0 0 (nI m_taped) (nI m_at) (nI m_to) (nI m_many) (nI m_readMany) m_fewest (nI m_size) mn mf_11 mr) H := hP
                    have hD : va_D A (wl_k_X9_across cI cJ cK m0 a_row a_tape a_number a_read a_readBits a_stands a_parted a_bitsWere a_stood a_chosen a_bestChosen a_often a_sorted a_risen a_risenWays 0 0 (nI m_taped) (nI m_at) (nI m_to) (nI m_many) (nI m_readMany) m_fewest (nI m_size) mn mf_11 mr) := hD
                    refine lv_aload_n hx hb dX9_across_92 rfl (lv_at hl 2 rfl) ?_
                    refine lv_iload hx hb dX9_across_93 (lv_at hl 0 rfl) ?_
                    refine lv_iload_n hx hb dX9_across_95 rfl (lv_at hl 5 rfl) ?_
                    refine lv_ixor hx hb dX9_across_96 ?_
                    refine my_eqi (y := nI (v ^^^ k_6)) (fb_xorI _ _) ?_
                    try have hxl_15 : v ^^^ k_6 < 256 := Nat.xor_lt_two_pow (n := 8) (by omega) (by omega)
                    refine lv_i2l (v := lN (v ^^^ k_6)) hx hb dX9_across_97 (nI_l (by omega)) ?_
                    refine my_goVS (wc := (wl_k_X9_enters cI cJ cK m0 a_row a_tape a_number a_read a_readBits a_stands a_parted a_bitsWere a_stood a_chosen a_bestChosen a_often a_sorted a_risen a_risenWays 0 0 (nI m_taped) (nI m_at) (nI m_to) (nI m_many) (nI m_readMany) m_fewest (nI m_size) mr)) hP hD hS hA [0, 3] rfl [some 0, none, none, some 1] (by decide +kernel) (my_cV (As := [.long (lN (v ^^^ k_6))]) (rest := []) (ci := 9) (wc := (wl_k_X9_enters cI cJ cK m0 a_row a_tape a_number a_read a_readBits a_stands a_parted a_bitsWere a_stood a_chosen a_bestChosen a_often a_sorted a_risen a_risenWays 0 0 (nI m_taped) (nI m_at) (nI m_to) (nI m_many) (nI m_readMany) m_fewest (nI m_size) mr)) ⟨hx, hb, hml, hown, hts⟩ (cwV 1 hts gX9_across_X9_enters rfl rfl rfl (by decide +kernel) ⟨Nat.le_of_ble_eq_true rfl, Nat.le_of_ble_eq_true rfl⟩) hN hK hP hD [0, 3] rfl (by decide) rfl 0 rfl rfl rfl rfl hl.1 rfl (Nat.le_of_ble_eq_true rfl) dX9_across_98 ⟨Nat.le_of_ble_eq_true rfl, Nat.le_of_ble_eq_true rfl⟩  ((k_X9_enters l D cI cJ cK m0 a_row a_tape a_number a_read a_readBits a_stands a_parted a_bitsWere a_stood a_chosen a_bestChosen a_often a_sorted a_risen a_risenWays (0 : Int32) 0 m_taped m_at m_to m_many m_readMany m_fewest m_size mr (lN (v ^^^ k_6)) (by first | assumption | omega | decide +kernel) (by first | assumption | omega | decide +kernel) (by first | assumption | omega | decide +kernel) (by first | assumption | omega | decide +kernel) (by first | assumption | omega | decide +kernel) (by first | assumption | omega | decide +kernel) (by first | assumption | omega | decide +kernel) (by first | assumption | omega | decide +kernel)) _)) (fun u H locs hp hPD hS => ?_)
                    obtain ⟨m_told_16, mr_17, rfl, hhz_m_told_18, ht_19⟩ := hp
                    obtain ⟨hP, hD⟩ := hPD rfl
                    have hP : va_P D vwCl (wl_k_X9_across cI cJ cK m0 a_row a_tape a_number a_read a_readBits a_stands a_parted a_bitsWere a_stood a_chosen a_bestChosen a_often a_sorted a_risen a_risenWays 0 (nI m_told_16) (nI m_taped) (nI m_at) (nI m_to) (nI m_many) (nI m_readMany) m_fewest (nI m_size) mn mf_11 mr_17) H := hP
                    have hD : va_D A (wl_k_X9_across cI cJ cK m0 a_row a_tape a_number a_read a_readBits a_stands a_parted a_bitsWere a_stood a_chosen a_bestChosen a_often a_sorted a_risen a_risenWays 0 (nI m_told_16) (nI m_taped) (nI m_at) (nI m_to) (nI m_many) (nI m_readMany) m_fewest (nI m_size) mn mf_11 mr_17) := hD
                    refine lv_iload hx hb dX9_across_101 (lv_at hl 0 rfl) ?_
                    have hsI_l9 : (nI a_1).toInt = ((a_1 : Nat) : Int) := nI_toInt (by omega)
                    have hsN_l9 : (nI a_1).toInt.toNat = a_1 := nIt (by omega)
                    have hsI_r9 : (nI b_2).toInt = ((b_2 : Nat) : Int) := nI_toInt (by omega)
                    have hsN_r9 : (nI b_2).toInt.toNat = b_2 := nIt (by omega)
                    have hsI_w9 : (nI k_6).toInt = ((k_6 : Nat) : Int) := nI_toInt (by omega)
                    have hsN_w9 : (nI k_6).toInt.toNat = k_6 := nIt (by omega)
                    have hsI_k9 : (nI w_9).toInt = ((w_9 : Nat) : Int) := nI_toInt (by omega)
                    have hsN_k9 : (nI w_9).toInt.toNat = w_9 := nIt (by omega)
                    exact my_retI hx hb hr hlocks hK hS (wl_k_X9_across cI cJ cK m0 a_row a_tape a_number a_read a_readBits a_stands a_parted a_bitsWere a_stood a_chosen a_bestChosen a_often a_sorted a_risen a_risenWays 0 (nI m_told_16) (nI m_taped) (nI m_at) (nI m_to) (nI m_many) (nI m_readMany) m_fewest (nI m_size) mn mf_11 mr_17) hP hD (Or.inr (Or.inr (⟨v, 0, m_told_16, mf_11, mr_17, rfl, rfl, (by first | assumption | omega | trivial | decide +kernel), (by first | assumption | omega | trivial | decide +kernel), (by first | assumption | omega | trivial | decide +kernel), (by first | assumption | omega | trivial | decide +kernel), (by first | assumption | omega | trivial | decide +kernel), (by first | assumption | omega | trivial | decide +kernel), (by first | assumption | omega | trivial | decide +kernel), (by first | assumption | omega | trivial | decide +kernel), (by first | assumption | omega | trivial | decide +kernel), (by rw [hsN_l9, hsN_r9, hsN_w9, hsN_k9]; exact ax_mk (by omega) (by omega)), (by first | assumption | omega | trivial | decide +kernel)⟩))) dX9_across_103
                  ·
                    have d64 : ((t_13 : Nat) : Int) ≤ ((t : Nat) : Int) := my_ngt c64 (nI_toInt (by omega)) (nI_toInt (by omega))
                    refine lv_iload hx hb dX9_across_67 (lv_at hl 1 rfl) ?_
                    refine lv_aload_n hx hb dX9_across_69 rfl (lv_at hl 2 rfl) ?_
                    refine lv_iconst (v := 0) hx hb dX9_across_70 (by decide +kernel) ?_
                    refine lv_iload hx hb dX9_across_71 (lv_at hl 0 rfl) ?_
                    refine lv_iload_n hx hb dX9_across_73 rfl (lv_at hl 5 rfl) ?_
                    refine lv_ixor hx hb dX9_across_74 ?_
                    refine my_eqi (y := nI (v ^^^ k_6)) (fb_xorI _ _) ?_
                    try have hxl_20 : v ^^^ k_6 < 256 := Nat.xor_lt_two_pow (n := 8) (by omega) (by omega)
                    refine my_gpI (my_pV (As := [.int 0, .int (nI (v ^^^ k_6))]) (rest := [.int (nI t)]) (ci := 9) ⟨hx, hb, hml, hown, hts⟩ (cwV 2 hts gX9_across_X9_times rfl rfl rfl (by decide +kernel) ⟨Nat.le_of_ble_eq_true rfl, Nat.le_of_ble_eq_true rfl⟩) hN hK hP [0, 2] rfl 0 rfl rfl rfl rfl hl.1 rfl (Nat.le_of_ble_eq_true rfl) dX9_across_75 ⟨Nat.le_of_ble_eq_true rfl, Nat.le_of_ble_eq_true rfl⟩  (kt_X9_times l D cI cJ cK m0 a_row a_tape a_number a_read a_readBits a_stands a_parted a_bitsWere a_stood a_chosen a_bestChosen a_often a_sorted a_risen a_risenWays (0 : Int32) m_told m_taped m_at m_to m_many m_readMany m_fewest m_size mf_11 (v ^^^ k_6) (cnF mn a_1 b_2) (by first | assumption | omega | decide +kernel) (by first | assumption | omega | decide +kernel) (by first | assumption | omega | decide +kernel) (by first | assumption | omega | decide +kernel) (by first | assumption | omega | decide +kernel) (by first | assumption | omega | decide +kernel) (by first | assumption | omega | decide +kernel) (by first | assumption | omega | decide +kernel) (hcn0) (cnF_64 (by omega)))) (fun r hp => ?_)
                    obtain ⟨t_21, rfl, htm, hq_22⟩ := hp
                    refine lv_isub hx hb dX9_across_78 ?_
                    refine my_eqi (y := nI (t - t_21)) (my_subN (a := t) (b := t_21) (by omega)) ?_
                    refine lv_istore (lv' := [(5, .int (nI (t - t_21))), (6, .int (nI v)), (0, .ref m0), (1, .int (nI a_1)), (2, .int (nI b_2)), (3, .int (nI k_6)), (4, .int (nI w_9))]) hx hb dX9_across_79 hl (by decide) rfl (fun ls hl => ?_)
                    refine lv_iinc (v := nI (v + 1)) (lv' := [(6, .int (nI (v + 1))), (5, .int (nI (t - t_21))), (0, .ref m0), (1, .int (nI a_1)), (2, .int (nI b_2)), (3, .int (nI k_6)), (4, .int (nI w_9))]) hx hb dX9_across_81 hl (k := 1) rfl (my_incN v 1 (by decide +kernel)) (by decide) rfl (fun ls hl => ?_)
                    refine lv_goto (tgt := 53) hx hb dX9_across_84 (by decide) ?_
                    exact ih53  (v + 1) (t - t_21) (by omega) (by first | assumption | omega | decide +kernel) (by first | assumption | omega | decide +kernel) (by first | assumption | omega | decide +kernel) _ _ ls hP hD hS (lv_sub hl [0, 1, 2, 3, 4, 5, 6] rfl)
              exact loop53 ((256 - 0) + 1) 0 w_9 (Nat.lt_succ_self _) (by first | assumption | omega | decide +kernel) (by first | assumption | omega | decide +kernel) (Nat.add_zero _) _ _ ls hP hD hS (lv_sub hl [0, 1, 2, 3, 4, 5, 6] rfl)
            ·
              have d33 : ((w_9 : Nat) : Int) ≥ z_10.toInt := my_nlt c33 (nI_toInt (by omega)) rfl
              refine lv_bipush (v := (-2)) hx hb dX9_across_36 (by decide +kernel) ?_
              have hsI_l9 : (nI a_1).toInt = ((a_1 : Nat) : Int) := nI_toInt (by omega)
              have hsN_l9 : (nI a_1).toInt.toNat = a_1 := nIt (by omega)
              have hsI_r9 : (nI b_2).toInt = ((b_2 : Nat) : Int) := nI_toInt (by omega)
              have hsN_r9 : (nI b_2).toInt.toNat = b_2 := nIt (by omega)
              have hsI_w9 : (nI k_6).toInt = ((k_6 : Nat) : Int) := nI_toInt (by omega)
              have hsN_w9 : (nI k_6).toInt.toNat = k_6 := nIt (by omega)
              have hsI_k9 : (nI w_9).toInt = ((w_9 : Nat) : Int) := nI_toInt (by omega)
              have hsN_k9 : (nI w_9).toInt.toNat = w_9 := nIt (by omega)
              exact my_retI hx hb hr hlocks hK hS (wl_k_X9_across cI cJ cK m0 a_row a_tape a_number a_read a_readBits a_stands a_parted a_bitsWere a_stood a_chosen a_bestChosen a_often a_sorted a_risen a_risenWays 0 (nI m_told) (nI m_taped) (nI m_at) (nI m_to) (nI m_many) (nI m_readMany) m_fewest (nI m_size) mn mf mr) hP hD (Or.inr (Or.inl ⟨0, m_told, mf, mr, rfl, rfl, (by first | assumption | omega | trivial | decide +kernel), (by first | assumption | omega | trivial | decide +kernel), (by first | assumption | omega | trivial | decide +kernel), (by first | assumption | omega | trivial | decide +kernel), (by first | assumption | omega | trivial | decide +kernel), (by first | assumption | omega | trivial | decide +kernel), (by first | assumption | omega | trivial | decide +kernel), (by first | assumption | omega | trivial | decide +kernel)⟩)) dX9_across_38
          ·
            have d23 : k9.toInt < (0 : Int) := my_nge c23 rfl (by decide +kernel)
            refine lv_iconst (v := (-1)) hx hb dX9_across_26 (by decide +kernel) ?_
            have hsI_l9 : (nI a_1).toInt = ((a_1 : Nat) : Int) := nI_toInt (by omega)
            have hsN_l9 : (nI a_1).toInt.toNat = a_1 := nIt (by omega)
            have hsI_r9 : (nI b_2).toInt = ((b_2 : Nat) : Int) := nI_toInt (by omega)
            have hsN_r9 : (nI b_2).toInt.toNat = b_2 := nIt (by omega)
            have hsI_w9 : (nI k_6).toInt = ((k_6 : Nat) : Int) := nI_toInt (by omega)
            have hsN_w9 : (nI k_6).toInt.toNat = k_6 := nIt (by omega)
            exact my_retI hx hb hr hlocks hK hS (wl_k_X9_across cI cJ cK m0 a_row a_tape a_number a_read a_readBits a_stands a_parted a_bitsWere a_stood a_chosen a_bestChosen a_often a_sorted a_risen a_risenWays 0 (nI m_told) (nI m_taped) (nI m_at) (nI m_to) (nI m_many) (nI m_readMany) m_fewest (nI m_size) mn mf mr) hP hD (Or.inl ⟨0, rfl, rfl, (by first | assumption | omega | trivial | decide +kernel)⟩) dX9_across_27
      ·
        refine lv_if_eq (tgt := 26) hx hb dX9_across_18 (by decide) (fun c18 => ?_) (fun c18 => ?_)
        ·
          refine lv_iconst (v := (-1)) hx hb dX9_across_26 (by decide +kernel) ?_
          have hsI_l9 : (nI a_1).toInt = ((a_1 : Nat) : Int) := nI_toInt (by omega)
          have hsN_l9 : (nI a_1).toInt.toNat = a_1 := nIt (by omega)
          have hsI_r9 : (nI b_2).toInt = ((b_2 : Nat) : Int) := nI_toInt (by omega)
          have hsN_r9 : (nI b_2).toInt.toNat = b_2 := nIt (by omega)
          exact my_retI hx hb hr hlocks hK hS (wl_k_X9_across cI cJ cK m0 a_row a_tape a_number a_read a_readBits a_stands a_parted a_bitsWere a_stood a_chosen a_bestChosen a_often a_sorted a_risen a_risenWays 0 (nI m_told) (nI m_taped) (nI m_at) (nI m_to) (nI m_many) (nI m_readMany) m_fewest (nI m_size) mn mf mr) hP hD (Or.inl ⟨0, rfl, rfl, (by first | assumption | omega | trivial | decide +kernel)⟩) dX9_across_27
        ·
          exact absurd c18 (by decide +kernel)
  ·
    refine lv_if_eq (tgt := 26) hx hb dX9_across_11 (by decide) (fun c11 => ?_) (fun c11 => ?_)
    ·
      refine lv_iconst (v := (-1)) hx hb dX9_across_26 (by decide +kernel) ?_
      exact my_retI hx hb hr hlocks hK hS (wl_k_X9_across cI cJ cK m0 a_row a_tape a_number a_read a_readBits a_stands a_parted a_bitsWere a_stood a_chosen a_bestChosen a_often a_sorted a_risen a_risenWays 0 (nI m_told) (nI m_taped) (nI m_at) (nI m_to) (nI m_many) (nI m_readMany) m_fewest (nI m_size) mn mf mr) hP hD (Or.inl ⟨0, rfl, rfl, (by first | assumption | omega | trivial | decide +kernel)⟩) dX9_across_27
    ·
      exact absurd c11 (by decide +kernel)
abbrev wl_k_X9_turned (cI cJ cK : ClassId) (m0 : Nat) (a_row : Nat) (a_tape : Nat) (a_number : Nat) (a_read : Nat) (a_readBits : Nat) (a_stands : Nat) (a_parted : Nat) (a_bitsWere : Nat) (a_stood : Nat) (a_chosen : Nat) (a_bestChosen : Nat) (a_often : Nat) (a_sorted : Nat) (a_risen : Nat) (a_risenWays : Nat) (v0_ : Int32) (v1_ : Int32) (v2_ : Int32) (v3_ : Int32) (v4_ : Int32) (v5_ : Int32) (v6_ : Int32) (v7_ : Int32) (v8_ : Int32) (v9_ : Nat → Int32) (v10_ : Nat → Int64) : va_W := [(m0, .inr (9, [.int v0_, .int v1_, .ref a_row, .ref a_tape, .int v2_, .int v3_, .int v4_, .int v5_, .ref a_number, .ref a_read, .int v6_, .ref a_readBits, .ref a_stands, .ref a_parted, .ref a_bitsWere, .ref a_stood, .ref a_chosen, .ref a_bestChosen, .int v7_, .ref a_often, .ref a_sorted, .int v8_, .ref a_risen, .ref a_risenWays])), (a_number, .inl (cI, 64, .inl v9_)), (a_row, .inl (cJ, 64, .inr (.inl v10_)))]
set_option maxHeartbeats 4000000 in
set_option maxRecDepth 100000 in
theorem k_X9_turned (l : Launch) (D : va_G) (cI cJ cK : ClassId) (m0 : Nat) (a_row : Nat) (a_tape : Nat) (a_number : Nat) (a_read : Nat) (a_readBits : Nat) (a_stands : Nat) (a_parted : Nat) (a_bitsWere : Nat) (a_stood : Nat) (a_chosen : Nat) (a_bestChosen : Nat) (a_often : Nat) (a_sorted : Nat) (a_risen : Nat) (a_risenWays : Nat) (m_thrown : Int32) (m_told : Nat) (m_taped : Nat) (m_at : Nat) (m_to : Nat) (m_many : Nat) (m_readMany : Nat) (m_fewest : Int32) (m_size : Nat) (mn : Nat → Int32) (mr : Nat → Int64) (l9 : Int32) (r9 : Int32) (hz_m_told : m_told ≤ 64) (hz_m_taped : m_taped ≤ 100) (hz_m_at : m_at ≤ 100) (hz_m_to : m_to ≤ 100) (hz_m_many : m_many ≤ 64) (hz_m_readMany : m_readMany ≤ 64) (hz_m_size : m_size ≤ 64) (hR_mn : RB 0 255 mn) : ctI l yX9_turned wsX9_turned ({ frames := 1, cells := 0, slots := 0, locals := 60 } : Room) D (tyIJ cI cJ cK) [.ref m0, .int l9, .int r9] (wl_k_X9_turned cI cJ cK m0 a_row a_tape a_number a_read a_readBits a_stands a_parted a_bitsWere a_stood a_chosen a_bestChosen a_often a_sorted a_risen a_risenWays m_thrown (nI m_told) (nI m_taped) (nI m_at) (nI m_to) (nI m_many) (nI m_readMany) m_fewest (nI m_size) mn mr) (fun (r : Int32) (u : va_W) => (∃ (m_thrown' : Int32), u = (wl_k_X9_turned cI cJ cK m0 a_row a_tape a_number a_read a_readBits a_stands a_parted a_bitsWere a_stood a_chosen a_bestChosen a_often a_sorted a_risen a_risenWays m_thrown' (nI m_told) (nI m_taped) (nI m_at) (nI m_to) (nI m_many) (nI m_readMany) m_fewest (nI m_size) mn mr) ∧ r = (-1) ∧ (l9.toInt < 0 ∨ r9.toInt < l9.toInt ∨ m_many < r9.toInt)) ∨ (∃ (t' : Nat) (m_thrown' : Int32) (m_told' : Nat) (mr' : Nat → Int64), u = (wl_k_X9_turned cI cJ cK m0 a_row a_tape a_number a_read a_readBits a_stands a_parted a_bitsWere a_stood a_chosen a_bestChosen a_often a_sorted a_risen a_risenWays m_thrown' (nI m_told') (nI m_taped) (nI m_at) (nI m_to) (nI m_many) (nI m_readMany) m_fewest (nI m_size) mn mr') ∧ r = nI t' ∧ m_told' ≤ 64 ∧ 0 ≤ l9.toInt ∧ l9.toInt ≤ r9.toInt ∧ r9.toInt ≤ m_many ∧ t' = tnO mn l9.toInt.toNat r9.toInt.toNat r9.toInt.toNat ∧ m_told' = 1)) := by
  refine ctI.of (cc := cX9_turned) (maxL := 7) (ret := (some .int)) (by decide) rfl (Nat.le_of_ble_eq_true rfl) ?_
  intro p e s m below meth c ls A hx hb hr hts hown hml hlocks hname hA hK hN hP hD hS hl
  have hl : lv_has ls 7 [(0, .ref m0), (1, .int l9), (2, .int r9)] := hl
  have hown : s.vm.findClass RX9 = some m.cls := hown
  have hi9 : ∀ w ∈ u_ws RX9 TX9 24, w ∈ wsX9_turned := by decide +kernel
  have fl1 := hts (.fieldLink RX9 1 "PlaneColumnModel" "thrown" "I") (by decide +kernel)
  have fl11 := hts (.fieldLink RX9 11 "PlaneColumnModel" "told" "I") (by decide +kernel)
  have fl49 := hts (.fieldLink RX9 49 "PlaneColumnModel" "number" "[I") (by decide +kernel)
  refine lv_aload_n hx hb dX9_turned_0 rfl (lv_at hl 0 rfl) ?_
  refine lv_iconst (v := 0) hx hb dX9_turned_1 (by decide +kernel) ?_
  refine va_put (ci := 9) (v := .int 0) (ty := (.int)) (C := RX9) (T := TX9) (N := 24) hx hb hts hi9 tyX9 tyX9_ok nmX9 hown hK hP hD hS 0 rfl rfl 0 (by decide) fl1 (fun _ h9 => h9) rfl (by decide +kernel) rfl rfl (Nat.le_of_ble_eq_true rfl) dX9_turned_2 (fun H locs hP hD hS => ?_)
  have hP : va_P D vwCl (wl_k_X9_turned cI cJ cK m0 a_row a_tape a_number a_read a_readBits a_stands a_parted a_bitsWere a_stood a_chosen a_bestChosen a_often a_sorted a_risen a_risenWays 0 (nI m_told) (nI m_taped) (nI m_at) (nI m_to) (nI m_many) (nI m_readMany) m_fewest (nI m_size) mn mr) H := hP
  have hD : va_D A (wl_k_X9_turned cI cJ cK m0 a_row a_tape a_number a_read a_readBits a_stands a_parted a_bitsWere a_stood a_chosen a_bestChosen a_often a_sorted a_risen a_risenWays 0 (nI m_told) (nI m_taped) (nI m_at) (nI m_to) (nI m_many) (nI m_readMany) m_fewest (nI m_size) mn mr) := hD
  refine lv_aload_n hx hb dX9_turned_5 rfl (lv_at hl 0 rfl) ?_
  refine lv_iload_n hx hb dX9_turned_6 rfl (lv_at hl 1 rfl) ?_
  refine lv_iload_n hx hb dX9_turned_7 rfl (lv_at hl 2 rfl) ?_
  refine my_gpI (my_pV (As := [.int l9, .int r9]) (rest := []) (ci := 9) ⟨hx, hb, hml, hown, hts⟩ (cwV 2 hts gX9_turned_X9_isSpan rfl rfl rfl (by decide +kernel) ⟨Nat.le_of_ble_eq_true rfl, Nat.le_of_ble_eq_true rfl⟩) hN hK hP [0] rfl 0 rfl rfl rfl rfl hl.1 rfl (Nat.le_of_ble_eq_true rfl) dX9_turned_8 ⟨Nat.le_of_ble_eq_true rfl, Nat.le_of_ble_eq_true rfl⟩  (k_X9_isSpan l D cI cJ cK m0 a_row a_tape a_number a_read a_readBits a_stands a_parted a_bitsWere a_stood a_chosen a_bestChosen a_often a_sorted a_risen a_risenWays (0 : Int32) m_told m_taped m_at m_to m_many m_readMany m_fewest m_size l9 r9 (by first | assumption | omega | decide +kernel) (by first | assumption | omega | decide +kernel) (by first | assumption | omega | decide +kernel) (by first | assumption | omega | decide +kernel) (by first | assumption | omega | decide +kernel) (by first | assumption | omega | decide +kernel) (by first | assumption | omega | decide +kernel))) (fun r hp => ?_)
  rcases hp with ⟨a_1, b_2, rfl, rfl, rfl, ha_3, hb_4⟩ | ⟨rfl, ho_5⟩
  ·
    refine lv_if_ne (tgt := 16) hx hb dX9_turned_11 (by decide) (fun c11 => ?_) (fun c11 => ?_)
    ·
      refine lv_iconst (v := 0) hx hb dX9_turned_16 (by decide +kernel) ?_
      refine lv_istore_n (lv' := [(3, .int 0), (0, .ref m0), (1, .int (nI a_1)), (2, .int (nI b_2))]) hx hb dX9_turned_17 rfl hl (by decide) rfl (fun ls hl => ?_)
      refine lv_iconst (v := 0) hx hb dX9_turned_18 (by decide +kernel) ?_
      refine lv_istore (lv' := [(4, .int 0), (3, .int 0), (0, .ref m0), (1, .int (nI a_1)), (2, .int (nI b_2))]) hx hb dX9_turned_19 hl (by decide) rfl (fun ls hl => ?_)
      refine lv_iload_n hx hb dX9_turned_21 rfl (lv_at hl 3 rfl) ?_
      refine lv_istore (lv' := [(5, .int (nI a_1)), (4, .int 0), (3, .int 0), (0, .ref m0), (1, .int (nI a_1)), (2, .int (nI b_2))]) hx hb dX9_turned_22 hl (by decide) rfl (fun ls hl => ?_)
      have loop24 : ∀ (n9 : Nat) (k : Nat) (y4_24 : Int32) (t : Nat), 64 - k < n9 → (k ≤ 64) → (a_1 ≤ k) → (k ≤ b_2) → (t = tnO mn a_1 b_2 k) → ∀ (H : Heap) (locs : List Loc) (ls : Array Slot), va_P D vwCl (wl_k_X9_turned cI cJ cK m0 a_row a_tape a_number a_read a_readBits a_stands a_parted a_bitsWere a_stood a_chosen a_bestChosen a_often a_sorted a_risen a_risenWays 0 (nI m_told) (nI m_taped) (nI m_at) (nI m_to) (nI m_many) (nI m_readMany) m_fewest (nI m_size) mn mr) H → va_D A (wl_k_X9_turned cI cJ cK m0 a_row a_tape a_number a_read a_readBits a_stands a_parted a_bitsWere a_stood a_chosen a_bestChosen a_often a_sorted a_risen a_risenWays 0 (nI m_told) (nI m_taped) (nI m_at) (nI m_to) (nI m_many) (nI m_readMany) m_fewest (nI m_size) mn mr) → va_S A s.heap H locs → lv_has ls 7 [(5, .int (nI k)), (4, .int y4_24), (3, .int (nI t)), (0, .ref m0), (1, .int (nI a_1)), (2, .int (nI b_2))] → W p l e ({ frames := 1, cells := 0, slots := 0, locals := 60 } : Room) s m [.ref m0, .int (nI a_1), .int (nI b_2)].toArray below meth c H locs 0 0 (MQ below (va_Qi (fun (r : Int32) (u : va_W) => (∃ (m_thrown' : Int32), u = (wl_k_X9_turned cI cJ cK m0 a_row a_tape a_number a_read a_readBits a_stands a_parted a_bitsWere a_stood a_chosen a_bestChosen a_often a_sorted a_risen a_risenWays m_thrown' (nI m_told) (nI m_taped) (nI m_at) (nI m_to) (nI m_many) (nI m_readMany) m_fewest (nI m_size) mn mr) ∧ r = (-1) ∧ ((nI a_1).toInt < 0 ∨ (nI b_2).toInt < (nI a_1).toInt ∨ m_many < (nI b_2).toInt)) ∨ (∃ (t' : Nat) (m_thrown' : Int32) (m_told' : Nat) (mr' : Nat → Int64), u = (wl_k_X9_turned cI cJ cK m0 a_row a_tape a_number a_read a_readBits a_stands a_parted a_bitsWere a_stood a_chosen a_bestChosen a_often a_sorted a_risen a_risenWays m_thrown' (nI m_told') (nI m_taped) (nI m_at) (nI m_to) (nI m_many) (nI m_readMany) m_fewest (nI m_size) mn mr') ∧ r = nI t' ∧ m_told' ≤ 64 ∧ 0 ≤ (nI a_1).toInt ∧ (nI a_1).toInt ≤ (nI b_2).toInt ∧ (nI b_2).toInt ≤ m_many ∧ t' = tnO mn (nI a_1).toInt.toNat (nI b_2).toInt.toNat (nI b_2).toInt.toNat ∧ m_told' = 1)) (my_B D (tyIJ cI cJ cK) A) A) [.ref m0, .int (nI a_1), .int (nI b_2)].toArray s 0 0 A) (F0 m 24 ls []) := by
        intro n9
        induction n9 with
        | zero =>
          intro k y4_24 t hn9
          exact absurd hn9 (Nat.not_lt_zero _)
        | succ n9 ih24 =>
          intro k y4_24 t hn9 hk_k hak hkb ht H locs ls hP hD hS hl
          refine lv_iload hx hb dX9_turned_24 (lv_at hl 0 rfl) ?_
          refine lv_iload_n hx hb dX9_turned_26 rfl (lv_at hl 5 rfl) ?_
          refine lv_icmp_ge (tgt := 112) hx hb dX9_turned_27 (by decide) (fun c27 => ?_) (fun c27 => ?_)
          ·
            have d27 : ((k : Nat) : Int) ≥ ((b_2 : Nat) : Int) := my_ge c27 (nI_toInt (by omega)) (nI_toInt (by omega))
            have hke : k = b_2 := by omega
            refine lv_aload_n hx hb dX9_turned_112 rfl (lv_at hl 3 rfl) ?_
            refine lv_iconst (v := 0) hx hb dX9_turned_113 (by decide +kernel) ?_
            refine va_put (ci := 9) (v := .int 0) (ty := (.int)) (C := RX9) (T := TX9) (N := 24) hx hb hts hi9 tyX9 tyX9_ok nmX9 hown hK hP hD hS 0 rfl rfl 1 (by decide) fl11 (fun _ h9 => h9) rfl (by decide +kernel) rfl rfl (Nat.le_of_ble_eq_true rfl) dX9_turned_114 (fun H locs hP hD hS => ?_)
            have hP : va_P D vwCl (wl_k_X9_turned cI cJ cK m0 a_row a_tape a_number a_read a_readBits a_stands a_parted a_bitsWere a_stood a_chosen a_bestChosen a_often a_sorted a_risen a_risenWays 0 0 (nI m_taped) (nI m_at) (nI m_to) (nI m_many) (nI m_readMany) m_fewest (nI m_size) mn mr) H := hP
            have hD : va_D A (wl_k_X9_turned cI cJ cK m0 a_row a_tape a_number a_read a_readBits a_stands a_parted a_bitsWere a_stood a_chosen a_bestChosen a_often a_sorted a_risen a_risenWays 0 0 (nI m_taped) (nI m_at) (nI m_to) (nI m_many) (nI m_readMany) m_fewest (nI m_size) mn mr) := hD
            refine lv_aload_n hx hb dX9_turned_117 rfl (lv_at hl 3 rfl) ?_
            refine lv_iload hx hb dX9_turned_118 (lv_at hl 1 rfl) ?_
            refine lv_i2l (v := y4_24.toInt64) hx hb dX9_turned_120 rfl ?_
            refine my_goVS (wc := (wl_k_X9_enters cI cJ cK m0 a_row a_tape a_number a_read a_readBits a_stands a_parted a_bitsWere a_stood a_chosen a_bestChosen a_often a_sorted a_risen a_risenWays 0 0 (nI m_taped) (nI m_at) (nI m_to) (nI m_many) (nI m_readMany) m_fewest (nI m_size) mr)) hP hD hS hA [0, 2] rfl [some 0, none, some 1] (by decide +kernel) (my_cV (As := [.long y4_24.toInt64]) (rest := []) (ci := 9) (wc := (wl_k_X9_enters cI cJ cK m0 a_row a_tape a_number a_read a_readBits a_stands a_parted a_bitsWere a_stood a_chosen a_bestChosen a_often a_sorted a_risen a_risenWays 0 0 (nI m_taped) (nI m_at) (nI m_to) (nI m_many) (nI m_readMany) m_fewest (nI m_size) mr)) ⟨hx, hb, hml, hown, hts⟩ (cwV 1 hts gX9_turned_X9_enters rfl rfl rfl (by decide +kernel) ⟨Nat.le_of_ble_eq_true rfl, Nat.le_of_ble_eq_true rfl⟩) hN hK hP hD [0, 2] rfl (by decide) rfl 0 rfl rfl rfl rfl hl.1 rfl (Nat.le_of_ble_eq_true rfl) dX9_turned_121 ⟨Nat.le_of_ble_eq_true rfl, Nat.le_of_ble_eq_true rfl⟩  ((k_X9_enters l D cI cJ cK m0 a_row a_tape a_number a_read a_readBits a_stands a_parted a_bitsWere a_stood a_chosen a_bestChosen a_often a_sorted a_risen a_risenWays (0 : Int32) 0 m_taped m_at m_to m_many m_readMany m_fewest m_size mr y4_24.toInt64 (by first | assumption | omega | decide +kernel) (by first | assumption | omega | decide +kernel) (by first | assumption | omega | decide +kernel) (by first | assumption | omega | decide +kernel) (by first | assumption | omega | decide +kernel) (by first | assumption | omega | decide +kernel) (by first | assumption | omega | decide +kernel) (by first | assumption | omega | decide +kernel)) _)) (fun u H locs hp hPD hS => ?_)
            obtain ⟨m_told_6, mr_7, rfl, hhz_m_told_8, ht_9⟩ := hp
            obtain ⟨hP, hD⟩ := hPD rfl
            have hP : va_P D vwCl (wl_k_X9_turned cI cJ cK m0 a_row a_tape a_number a_read a_readBits a_stands a_parted a_bitsWere a_stood a_chosen a_bestChosen a_often a_sorted a_risen a_risenWays 0 (nI m_told_6) (nI m_taped) (nI m_at) (nI m_to) (nI m_many) (nI m_readMany) m_fewest (nI m_size) mn mr_7) H := hP
            have hD : va_D A (wl_k_X9_turned cI cJ cK m0 a_row a_tape a_number a_read a_readBits a_stands a_parted a_bitsWere a_stood a_chosen a_bestChosen a_often a_sorted a_risen a_risenWays 0 (nI m_told_6) (nI m_taped) (nI m_at) (nI m_to) (nI m_many) (nI m_readMany) m_fewest (nI m_size) mn mr_7) := hD
            refine lv_iload_n hx hb dX9_turned_124 rfl (lv_at hl 2 rfl) ?_
            have hsI_l9 : (nI a_1).toInt = ((a_1 : Nat) : Int) := nI_toInt (by omega)
            have hsN_l9 : (nI a_1).toInt.toNat = a_1 := nIt (by omega)
            have hsI_r9 : (nI b_2).toInt = ((b_2 : Nat) : Int) := nI_toInt (by omega)
            have hsN_r9 : (nI b_2).toInt.toNat = b_2 := nIt (by omega)
            exact my_retI hx hb hr hlocks hK hS (wl_k_X9_turned cI cJ cK m0 a_row a_tape a_number a_read a_readBits a_stands a_parted a_bitsWere a_stood a_chosen a_bestChosen a_often a_sorted a_risen a_risenWays 0 (nI m_told_6) (nI m_taped) (nI m_at) (nI m_to) (nI m_many) (nI m_readMany) m_fewest (nI m_size) mn mr_7) hP hD (Or.inr (⟨t, 0, m_told_6, mr_7, rfl, rfl, (by first | assumption | omega | trivial | decide +kernel), (by first | assumption | omega | trivial | decide +kernel), (by first | assumption | omega | trivial | decide +kernel), (by first | assumption | omega | trivial | decide +kernel), (by rw [hsN_l9, hsN_r9]; rw [← hke] at ht ⊢; exact ht), (by first | assumption | omega | trivial | decide +kernel)⟩)) dX9_turned_125
          ·
            have d27 : ((k : Nat) : Int) < ((b_2 : Nat) : Int) := my_nge c27 (nI_toInt (by omega)) (nI_toInt (by omega))
            refine lv_iload hx hb dX9_turned_30 (lv_at hl 0 rfl) ?_
            refine lv_iconst (v := 1) hx hb dX9_turned_32 (by decide +kernel) ?_
            refine lv_iadd hx hb dX9_turned_33 ?_
            refine my_eqi (y := nI (k + 1)) (my_addN k 1) ?_
            refine lv_istore (lv' := [(6, .int (nI (k + 1))), (5, .int (nI k)), (4, .int y4_24), (3, .int (nI t)), (0, .ref m0), (1, .int (nI a_1)), (2, .int (nI b_2))]) hx hb dX9_turned_34 hl (by decide) rfl (fun ls hl => ?_)
            have loop36 : ∀ (n9 : Nat) (j : Nat) (y4_36 : Int32) (t2 : Nat), 64 - j < n9 → (j ≤ 64) → (j ≤ b_2) → (k + 1 ≤ j) → (t2 = tnO mn a_1 b_2 k + tnI mn k (k + 1) j) → ∀ (H : Heap) (locs : List Loc) (ls : Array Slot), va_P D vwCl (wl_k_X9_turned cI cJ cK m0 a_row a_tape a_number a_read a_readBits a_stands a_parted a_bitsWere a_stood a_chosen a_bestChosen a_often a_sorted a_risen a_risenWays 0 (nI m_told) (nI m_taped) (nI m_at) (nI m_to) (nI m_many) (nI m_readMany) m_fewest (nI m_size) mn mr) H → va_D A (wl_k_X9_turned cI cJ cK m0 a_row a_tape a_number a_read a_readBits a_stands a_parted a_bitsWere a_stood a_chosen a_bestChosen a_often a_sorted a_risen a_risenWays 0 (nI m_told) (nI m_taped) (nI m_at) (nI m_to) (nI m_many) (nI m_readMany) m_fewest (nI m_size) mn mr) → va_S A s.heap H locs → lv_has ls 7 [(6, .int (nI j)), (5, .int (nI k)), (4, .int y4_36), (3, .int (nI t2)), (0, .ref m0), (1, .int (nI a_1)), (2, .int (nI b_2))] → W p l e ({ frames := 1, cells := 0, slots := 0, locals := 60 } : Room) s m [.ref m0, .int (nI a_1), .int (nI b_2)].toArray below meth c H locs 0 0 (MQ below (va_Qi (fun (r : Int32) (u : va_W) => (∃ (m_thrown' : Int32), u = (wl_k_X9_turned cI cJ cK m0 a_row a_tape a_number a_read a_readBits a_stands a_parted a_bitsWere a_stood a_chosen a_bestChosen a_often a_sorted a_risen a_risenWays m_thrown' (nI m_told) (nI m_taped) (nI m_at) (nI m_to) (nI m_many) (nI m_readMany) m_fewest (nI m_size) mn mr) ∧ r = (-1) ∧ ((nI a_1).toInt < 0 ∨ (nI b_2).toInt < (nI a_1).toInt ∨ m_many < (nI b_2).toInt)) ∨ (∃ (t' : Nat) (m_thrown' : Int32) (m_told' : Nat) (mr' : Nat → Int64), u = (wl_k_X9_turned cI cJ cK m0 a_row a_tape a_number a_read a_readBits a_stands a_parted a_bitsWere a_stood a_chosen a_bestChosen a_often a_sorted a_risen a_risenWays m_thrown' (nI m_told') (nI m_taped) (nI m_at) (nI m_to) (nI m_many) (nI m_readMany) m_fewest (nI m_size) mn mr') ∧ r = nI t' ∧ m_told' ≤ 64 ∧ 0 ≤ (nI a_1).toInt ∧ (nI a_1).toInt ≤ (nI b_2).toInt ∧ (nI b_2).toInt ≤ m_many ∧ t' = tnO mn (nI a_1).toInt.toNat (nI b_2).toInt.toNat (nI b_2).toInt.toNat ∧ m_told' = 1)) (my_B D (tyIJ cI cJ cK) A) A) [.ref m0, .int (nI a_1), .int (nI b_2)].toArray s 0 0 A) (F0 m 36 ls []) := by
              intro n9
              induction n9 with
              | zero =>
                intro j y4_36 t2 hn9
                exact absurd hn9 (Nat.not_lt_zero _)
              | succ n9 ih36 =>
                intro j y4_36 t2 hn9 hk_j hjb hkj ht2 H locs ls hP hD hS hl
                refine lv_iload hx hb dX9_turned_36 (lv_at hl 0 rfl) ?_
                refine lv_iload_n hx hb dX9_turned_38 rfl (lv_at hl 6 rfl) ?_
                refine lv_icmp_ge (tgt := 106) hx hb dX9_turned_39 (by decide) (fun c39 => ?_) (fun c39 => ?_)
                ·
                  have d39 : ((j : Nat) : Int) ≥ ((b_2 : Nat) : Int) := my_ge c39 (nI_toInt (by omega)) (nI_toInt (by omega))
                  refine lv_iinc (v := nI (k + 1)) (lv' := [(5, .int (nI (k + 1))), (6, .int (nI j)), (4, .int y4_36), (3, .int (nI t2)), (0, .ref m0), (1, .int (nI a_1)), (2, .int (nI b_2))]) hx hb dX9_turned_106 hl (k := 1) rfl (my_incN k 1 (by decide +kernel)) (by decide) rfl (fun ls hl => ?_)
                  refine lv_goto (tgt := 24) hx hb dX9_turned_109 (by decide) ?_
                  exact ih24  (k + 1) y4_36 t2 (by omega) (by first | assumption | omega | decide +kernel) (by first | assumption | omega | decide +kernel) (by first | assumption | omega | decide +kernel) (tnO_s (by rw [ht2, show j = b_2 from (by omega)]) (by omega)) _ _ ls hP hD hS (lv_sub hl [0, 2, 3, 4, 5, 6] rfl)
                ·
                  have d39 : ((j : Nat) : Int) < ((b_2 : Nat) : Int) := my_nge c39 (nI_toInt (by omega)) (nI_toInt (by omega))
                  refine lv_iload_n hx hb dX9_turned_42 rfl (lv_at hl 3 rfl) ?_
                  refine lv_aload_n hx hb dX9_turned_43 rfl (lv_at hl 4 rfl) ?_
                  refine va_get (ci := 9) (v := .ref a_number) (C := RX9) (T := TX9) (N := 24) hx hb hts hi9 hown hK hP 0 rfl rfl 8 (by decide) fl49 (fun _ h9 => h9) rfl dX9_turned_44 ?_
                  refine lv_iload hx hb dX9_turned_47 (lv_at hl 1 rfl) ?_
                  refine va_iald hx hb hK hP 1 0 rfl rfl (vp_in_nI (by omega) (by omega)) dX9_turned_49 ?_
                  refine my_eqi (y := mn k) (congrArg mn (nI_clamp (by omega))) ?_
                  have hb_10 := hR_mn k
                  refine lv_aload_n hx hb dX9_turned_50 rfl (lv_at hl 4 rfl) ?_
                  refine va_get (ci := 9) (v := .ref a_number) (C := RX9) (T := TX9) (N := 24) hx hb hts hi9 hown hK hP 0 rfl rfl 8 (by decide) fl49 (fun _ h9 => h9) rfl dX9_turned_51 ?_
                  refine lv_iload hx hb dX9_turned_54 (lv_at hl 0 rfl) ?_
                  refine va_iald hx hb hK hP 1 0 rfl rfl (vp_in_nI (by omega) (by omega)) dX9_turned_56 ?_
                  refine my_eqi (y := mn j) (congrArg mn (nI_clamp (by omega))) ?_
                  have hb_11 := hR_mn j
                  refine lv_icmp_le (tgt := 64) hx hb dX9_turned_57 (by decide) (fun c57 => ?_) (fun c57 => ?_)
                  ·
                    have d57 : (mn k).toInt ≤ (mn j).toInt := my_le c57 rfl rfl
                    refine lv_iconst (v := 0) hx hb dX9_turned_64 (by decide +kernel) ?_
                    refine my_gpI (my_pS (As := [.int 0]) (rest := [.int (nI t2)]) ⟨hx, hb, hml, hown, hts⟩ (va_cwS 1 hts gX9_turned_X9_flag rfl rfl rfl (by decide +kernel) ⟨Nat.le_of_ble_eq_true rfl, Nat.le_of_ble_eq_true rfl⟩) hN hK hP [] rfl rfl hl.1 rfl (Nat.le_of_ble_eq_true rfl) dX9_turned_65 ⟨Nat.le_of_ble_eq_true rfl, Nat.le_of_ble_eq_true rfl⟩  (k0_X9_flag l D cI cJ cK )) (fun r hp => ?_)
                    obtain rfl := hp
                    refine lv_iadd hx hb dX9_turned_68 ?_
                    refine my_eqi (y := nI t2) (my_addN t2 0) ?_
                    refine lv_istore_n (lv' := [(3, .int (nI t2)), (6, .int (nI j)), (5, .int (nI k)), (4, .int y4_36), (0, .ref m0), (1, .int (nI a_1)), (2, .int (nI b_2))]) hx hb dX9_turned_69 rfl hl (by decide) rfl (fun ls hl => ?_)
                    refine lv_iload hx hb dX9_turned_70 (lv_at hl 3 rfl) ?_
                    refine lv_aload_n hx hb dX9_turned_72 rfl (lv_at hl 4 rfl) ?_
                    refine va_get (ci := 9) (v := .ref a_number) (C := RX9) (T := TX9) (N := 24) hx hb hts hi9 hown hK hP 0 rfl rfl 8 (by decide) fl49 (fun _ h9 => h9) rfl dX9_turned_73 ?_
                    refine lv_iload hx hb dX9_turned_76 (lv_at hl 2 rfl) ?_
                    refine va_iald hx hb hK hP 1 0 rfl rfl (vp_in_nI (by omega) (by omega)) dX9_turned_78 ?_
                    refine my_eqi (y := mn k) (congrArg mn (nI_clamp (by omega))) ?_
                    have hb_12 := hR_mn k
                    refine lv_aload_n hx hb dX9_turned_79 rfl (lv_at hl 4 rfl) ?_
                    refine va_get (ci := 9) (v := .ref a_number) (C := RX9) (T := TX9) (N := 24) hx hb hts hi9 hown hK hP 0 rfl rfl 8 (by decide) fl49 (fun _ h9 => h9) rfl dX9_turned_80 ?_
                    refine lv_iload hx hb dX9_turned_83 (lv_at hl 1 rfl) ?_
                    refine va_iald hx hb hK hP 1 0 rfl rfl (vp_in_nI (by omega) (by omega)) dX9_turned_85 ?_
                    refine my_eqi (y := mn j) (congrArg mn (nI_clamp (by omega))) ?_
                    have hb_13 := hR_mn j
                    refine lv_icmp_ne (tgt := 93) hx hb dX9_turned_86 (by decide) (fun c86 => ?_) (fun c86 => ?_)
                    ·
                      have d86 : (mn k).toInt ≠ (mn j).toInt := my_ne c86 rfl rfl
                      refine lv_iconst (v := 0) hx hb dX9_turned_93 (by decide +kernel) ?_
                      refine my_gpI (my_pS (As := [.int 0]) (rest := [.int y4_36]) ⟨hx, hb, hml, hown, hts⟩ (va_cwS 1 hts gX9_turned_X9_flag rfl rfl rfl (by decide +kernel) ⟨Nat.le_of_ble_eq_true rfl, Nat.le_of_ble_eq_true rfl⟩) hN hK hP [] rfl rfl hl.1 rfl (Nat.le_of_ble_eq_true rfl) dX9_turned_94 ⟨Nat.le_of_ble_eq_true rfl, Nat.le_of_ble_eq_true rfl⟩  (k0_X9_flag l D cI cJ cK )) (fun r hp => ?_)
                      obtain rfl := hp
                      refine lv_iadd hx hb dX9_turned_97 ?_
                      refine lv_topi (fun z_14 ez_14 => ?_)
                      try have tz_14 : z_14.toInt = y4_36.toInt + (0 : Int) := by rw [ez_14]; exact my_addI rfl (by decide +kernel) (by omega) (by omega)
                      refine lv_istore (lv' := [(4, .int z_14), (3, .int (nI t2)), (6, .int (nI j)), (5, .int (nI k)), (0, .ref m0), (1, .int (nI a_1)), (2, .int (nI b_2))]) hx hb dX9_turned_98 hl (by decide) rfl (fun ls hl => ?_)
                      refine lv_iinc (v := nI (j + 1)) (lv' := [(6, .int (nI (j + 1))), (4, .int z_14), (3, .int (nI t2)), (5, .int (nI k)), (0, .ref m0), (1, .int (nI a_1)), (2, .int (nI b_2))]) hx hb dX9_turned_100 hl (k := 2) rfl (my_incN j 1 (by decide +kernel)) (by decide) rfl (fun ls hl => ?_)
                      refine lv_goto (tgt := 36) hx hb dX9_turned_103 (by decide) ?_
                      exact ih36  (j + 1) z_14 t2 (by omega) (by first | assumption | omega | decide +kernel) (by first | assumption | omega | decide +kernel) (by first | assumption | omega | decide +kernel) (by first | exact tnI_y ht2 (by omega) (by omega) | exact tnI_n ht2 (by omega)) _ _ ls hP hD hS (lv_sub hl [0, 3, 1, 2, 4, 5, 6] rfl)
                    ·
                      have d86 : (mn k).toInt = (mn j).toInt := my_eq c86 rfl rfl
                      refine lv_iconst (v := 1) hx hb dX9_turned_89 (by decide +kernel) ?_
                      refine lv_goto (tgt := 94) hx hb dX9_turned_90 (by decide) ?_
                      refine my_gpI (my_pS (As := [.int 1]) (rest := [.int y4_36]) ⟨hx, hb, hml, hown, hts⟩ (va_cwS 1 hts gX9_turned_X9_flag rfl rfl rfl (by decide +kernel) ⟨Nat.le_of_ble_eq_true rfl, Nat.le_of_ble_eq_true rfl⟩) hN hK hP [] rfl rfl hl.1 rfl (Nat.le_of_ble_eq_true rfl) dX9_turned_94 ⟨Nat.le_of_ble_eq_true rfl, Nat.le_of_ble_eq_true rfl⟩  (k1_X9_flag l D cI cJ cK )) (fun r hp => ?_)
                      obtain rfl := hp
                      refine lv_iadd hx hb dX9_turned_97 ?_
                      refine lv_topi (fun z_15 ez_15 => ?_)
                      try have tz_15 : z_15.toInt = y4_36.toInt + (1 : Int) := by rw [ez_15]; exact my_addI rfl (by decide +kernel) (by omega) (by omega)
                      refine lv_istore (lv' := [(4, .int z_15), (3, .int (nI t2)), (6, .int (nI j)), (5, .int (nI k)), (0, .ref m0), (1, .int (nI a_1)), (2, .int (nI b_2))]) hx hb dX9_turned_98 hl (by decide) rfl (fun ls hl => ?_)
                      refine lv_iinc (v := nI (j + 1)) (lv' := [(6, .int (nI (j + 1))), (4, .int z_15), (3, .int (nI t2)), (5, .int (nI k)), (0, .ref m0), (1, .int (nI a_1)), (2, .int (nI b_2))]) hx hb dX9_turned_100 hl (k := 2) rfl (my_incN j 1 (by decide +kernel)) (by decide) rfl (fun ls hl => ?_)
                      refine lv_goto (tgt := 36) hx hb dX9_turned_103 (by decide) ?_
                      exact ih36  (j + 1) z_15 t2 (by omega) (by first | assumption | omega | decide +kernel) (by first | assumption | omega | decide +kernel) (by first | assumption | omega | decide +kernel) (by first | exact tnI_y ht2 (by omega) (by omega) | exact tnI_n ht2 (by omega)) _ _ ls hP hD hS (lv_sub hl [0, 3, 1, 2, 4, 5, 6] rfl)
                  ·
                    have d57 : (mn k).toInt > (mn j).toInt := my_nle c57 rfl rfl
                    refine lv_iconst (v := 1) hx hb dX9_turned_60 (by decide +kernel) ?_
                    refine lv_goto (tgt := 65) hx hb dX9_turned_61 (by decide) ?_
                    refine my_gpI (my_pS (As := [.int 1]) (rest := [.int (nI t2)]) ⟨hx, hb, hml, hown, hts⟩ (va_cwS 1 hts gX9_turned_X9_flag rfl rfl rfl (by decide +kernel) ⟨Nat.le_of_ble_eq_true rfl, Nat.le_of_ble_eq_true rfl⟩) hN hK hP [] rfl rfl hl.1 rfl (Nat.le_of_ble_eq_true rfl) dX9_turned_65 ⟨Nat.le_of_ble_eq_true rfl, Nat.le_of_ble_eq_true rfl⟩  (k1_X9_flag l D cI cJ cK )) (fun r hp => ?_)
                    obtain rfl := hp
                    refine lv_iadd hx hb dX9_turned_68 ?_
                    refine my_eqi (y := nI (t2 + 1)) (my_addN t2 1) ?_
                    refine lv_istore_n (lv' := [(3, .int (nI (t2 + 1))), (6, .int (nI j)), (5, .int (nI k)), (4, .int y4_36), (0, .ref m0), (1, .int (nI a_1)), (2, .int (nI b_2))]) hx hb dX9_turned_69 rfl hl (by decide) rfl (fun ls hl => ?_)
                    refine lv_iload hx hb dX9_turned_70 (lv_at hl 3 rfl) ?_
                    refine lv_aload_n hx hb dX9_turned_72 rfl (lv_at hl 4 rfl) ?_
                    refine va_get (ci := 9) (v := .ref a_number) (C := RX9) (T := TX9) (N := 24) hx hb hts hi9 hown hK hP 0 rfl rfl 8 (by decide) fl49 (fun _ h9 => h9) rfl dX9_turned_73 ?_
                    refine lv_iload hx hb dX9_turned_76 (lv_at hl 2 rfl) ?_
                    refine va_iald hx hb hK hP 1 0 rfl rfl (vp_in_nI (by omega) (by omega)) dX9_turned_78 ?_
                    refine my_eqi (y := mn k) (congrArg mn (nI_clamp (by omega))) ?_
                    have hb_16 := hR_mn k
                    refine lv_aload_n hx hb dX9_turned_79 rfl (lv_at hl 4 rfl) ?_
                    refine va_get (ci := 9) (v := .ref a_number) (C := RX9) (T := TX9) (N := 24) hx hb hts hi9 hown hK hP 0 rfl rfl 8 (by decide) fl49 (fun _ h9 => h9) rfl dX9_turned_80 ?_
                    refine lv_iload hx hb dX9_turned_83 (lv_at hl 1 rfl) ?_
                    refine va_iald hx hb hK hP 1 0 rfl rfl (vp_in_nI (by omega) (by omega)) dX9_turned_85 ?_
                    refine my_eqi (y := mn j) (congrArg mn (nI_clamp (by omega))) ?_
                    have hb_17 := hR_mn j
                    refine lv_icmp_ne (tgt := 93) hx hb dX9_turned_86 (by decide) (fun c86 => ?_) (fun c86 => ?_)
                    ·
                      have d86 : (mn k).toInt ≠ (mn j).toInt := my_ne c86 rfl rfl
                      refine lv_iconst (v := 0) hx hb dX9_turned_93 (by decide +kernel) ?_
                      refine my_gpI (my_pS (As := [.int 0]) (rest := [.int y4_36]) ⟨hx, hb, hml, hown, hts⟩ (va_cwS 1 hts gX9_turned_X9_flag rfl rfl rfl (by decide +kernel) ⟨Nat.le_of_ble_eq_true rfl, Nat.le_of_ble_eq_true rfl⟩) hN hK hP [] rfl rfl hl.1 rfl (Nat.le_of_ble_eq_true rfl) dX9_turned_94 ⟨Nat.le_of_ble_eq_true rfl, Nat.le_of_ble_eq_true rfl⟩  (k0_X9_flag l D cI cJ cK )) (fun r hp => ?_)
                      obtain rfl := hp
                      refine lv_iadd hx hb dX9_turned_97 ?_
                      refine lv_topi (fun z_18 ez_18 => ?_)
                      try have tz_18 : z_18.toInt = y4_36.toInt + (0 : Int) := by rw [ez_18]; exact my_addI rfl (by decide +kernel) (by omega) (by omega)
                      refine lv_istore (lv' := [(4, .int z_18), (3, .int (nI (t2 + 1))), (6, .int (nI j)), (5, .int (nI k)), (0, .ref m0), (1, .int (nI a_1)), (2, .int (nI b_2))]) hx hb dX9_turned_98 hl (by decide) rfl (fun ls hl => ?_)
                      refine lv_iinc (v := nI (j + 1)) (lv' := [(6, .int (nI (j + 1))), (4, .int z_18), (3, .int (nI (t2 + 1))), (5, .int (nI k)), (0, .ref m0), (1, .int (nI a_1)), (2, .int (nI b_2))]) hx hb dX9_turned_100 hl (k := 2) rfl (my_incN j 1 (by decide +kernel)) (by decide) rfl (fun ls hl => ?_)
                      refine lv_goto (tgt := 36) hx hb dX9_turned_103 (by decide) ?_
                      exact ih36  (j + 1) z_18 (t2 + 1) (by omega) (by first | assumption | omega | decide +kernel) (by first | assumption | omega | decide +kernel) (by first | assumption | omega | decide +kernel) (by first | exact tnI_y ht2 (by omega) (by omega) | exact tnI_n ht2 (by omega)) _ _ ls hP hD hS (lv_sub hl [0, 3, 1, 2, 4, 5, 6] rfl)
                    ·
                      have d86 : (mn k).toInt = (mn j).toInt := my_eq c86 rfl rfl
                      refine lv_iconst (v := 1) hx hb dX9_turned_89 (by decide +kernel) ?_
                      refine lv_goto (tgt := 94) hx hb dX9_turned_90 (by decide) ?_
                      refine my_gpI (my_pS (As := [.int 1]) (rest := [.int y4_36]) ⟨hx, hb, hml, hown, hts⟩ (va_cwS 1 hts gX9_turned_X9_flag rfl rfl rfl (by decide +kernel) ⟨Nat.le_of_ble_eq_true rfl, Nat.le_of_ble_eq_true rfl⟩) hN hK hP [] rfl rfl hl.1 rfl (Nat.le_of_ble_eq_true rfl) dX9_turned_94 ⟨Nat.le_of_ble_eq_true rfl, Nat.le_of_ble_eq_true rfl⟩  (k1_X9_flag l D cI cJ cK )) (fun r hp => ?_)
                      obtain rfl := hp
                      refine lv_iadd hx hb dX9_turned_97 ?_
                      refine lv_topi (fun z_19 ez_19 => ?_)
                      try have tz_19 : z_19.toInt = y4_36.toInt + (1 : Int) := by rw [ez_19]; exact my_addI rfl (by decide +kernel) (by omega) (by omega)
                      refine lv_istore (lv' := [(4, .int z_19), (3, .int (nI (t2 + 1))), (6, .int (nI j)), (5, .int (nI k)), (0, .ref m0), (1, .int (nI a_1)), (2, .int (nI b_2))]) hx hb dX9_turned_98 hl (by decide) rfl (fun ls hl => ?_)
                      refine lv_iinc (v := nI (j + 1)) (lv' := [(6, .int (nI (j + 1))), (4, .int z_19), (3, .int (nI (t2 + 1))), (5, .int (nI k)), (0, .ref m0), (1, .int (nI a_1)), (2, .int (nI b_2))]) hx hb dX9_turned_100 hl (k := 2) rfl (my_incN j 1 (by decide +kernel)) (by decide) rfl (fun ls hl => ?_)
                      refine lv_goto (tgt := 36) hx hb dX9_turned_103 (by decide) ?_
                      exact ih36  (j + 1) z_19 (t2 + 1) (by omega) (by first | assumption | omega | decide +kernel) (by first | assumption | omega | decide +kernel) (by first | assumption | omega | decide +kernel) (by first | exact tnI_y ht2 (by omega) (by omega) | exact tnI_n ht2 (by omega)) _ _ ls hP hD hS (lv_sub hl [0, 3, 1, 2, 4, 5, 6] rfl)
            exact loop36 ((64 - (k + 1)) + 1) (k + 1) y4_24 t (Nat.lt_succ_self _) (by first | assumption | omega | decide +kernel) (by first | assumption | omega | decide +kernel) (by first | assumption | omega | decide +kernel) (by rw [tnI_0 (Nat.le_refl _), Nat.add_zero]; exact ht) _ _ ls hP hD hS (lv_sub hl [0, 1, 2, 3, 4, 5, 6] rfl)
      have ec_20 : (0 : Int32).toInt = 0 := by decide +kernel
      exact loop24 ((64 - a_1) + 1) a_1 (0 : Int32) 0 (Nat.lt_succ_self _) (by first | assumption | omega | decide +kernel) (by first | assumption | omega | decide +kernel) (by first | assumption | omega | decide +kernel) ((tnO_0 (Nat.le_refl _)).symm) _ _ ls hP hD hS (lv_sub hl [0, 1, 2, 3, 4, 5] rfl)
    ·
      exact absurd c11 (by decide +kernel)
  ·
    refine lv_if_ne (tgt := 16) hx hb dX9_turned_11 (by decide) (fun c11 => ?_) (fun c11 => ?_)
    ·
      exact absurd c11 (by decide +kernel)
    ·
      refine lv_iconst (v := (-1)) hx hb dX9_turned_14 (by decide +kernel) ?_
      exact my_retI hx hb hr hlocks hK hS (wl_k_X9_turned cI cJ cK m0 a_row a_tape a_number a_read a_readBits a_stands a_parted a_bitsWere a_stood a_chosen a_bestChosen a_often a_sorted a_risen a_risenWays 0 (nI m_told) (nI m_taped) (nI m_at) (nI m_to) (nI m_many) (nI m_readMany) m_fewest (nI m_size) mn mr) hP hD (Or.inl ⟨0, rfl, rfl, (by first | assumption | omega | trivial | decide +kernel)⟩) dX9_turned_15
abbrev wl_k_X9_spread (cI cJ cK : ClassId) (m0 : Nat) (a_row : Nat) (a_tape : Nat) (a_number : Nat) (a_read : Nat) (a_readBits : Nat) (a_stands : Nat) (a_parted : Nat) (a_bitsWere : Nat) (a_stood : Nat) (a_chosen : Nat) (a_bestChosen : Nat) (a_often : Nat) (a_sorted : Nat) (a_risen : Nat) (a_risenWays : Nat) (v0_ : Int32) (v1_ : Int32) (v2_ : Int32) (v3_ : Int32) (v4_ : Int32) (v5_ : Int32) (v6_ : Int32) (v7_ : Int32) (v8_ : Int32) (v9_ : Nat → Int32) (v10_ : Nat → Int32) (v11_ : Nat → Int64) : va_W := [(m0, .inr (9, [.int v0_, .int v1_, .ref a_row, .ref a_tape, .int v2_, .int v3_, .int v4_, .int v5_, .ref a_number, .ref a_read, .int v6_, .ref a_readBits, .ref a_stands, .ref a_parted, .ref a_bitsWere, .ref a_stood, .ref a_chosen, .ref a_bestChosen, .int v7_, .ref a_often, .ref a_sorted, .int v8_, .ref a_risen, .ref a_risenWays])), (a_number, .inl (cI, 64, .inl v9_)), (a_often, .inl (cI, 512, .inl v10_)), (a_row, .inl (cJ, 64, .inr (.inl v11_)))]
set_option maxHeartbeats 4000000 in
set_option maxRecDepth 100000 in
theorem k_X9_spread (l : Launch) (D : va_G) (cI cJ cK : ClassId) (m0 : Nat) (a_row : Nat) (a_tape : Nat) (a_number : Nat) (a_read : Nat) (a_readBits : Nat) (a_stands : Nat) (a_parted : Nat) (a_bitsWere : Nat) (a_stood : Nat) (a_chosen : Nat) (a_bestChosen : Nat) (a_often : Nat) (a_sorted : Nat) (a_risen : Nat) (a_risenWays : Nat) (m_thrown : Int32) (m_told : Nat) (m_taped : Nat) (m_at : Nat) (m_to : Nat) (m_many : Nat) (m_readMany : Nat) (m_fewest : Int32) (m_size : Nat) (mn : Nat → Int32) (mf : Nat → Int32) (mr : Nat → Int64) (l9 : Int32) (r9 : Int32) (p9 : Int32) (hz_m_told : m_told ≤ 64) (hz_m_taped : m_taped ≤ 100) (hz_m_at : m_at ≤ 100) (hz_m_to : m_to ≤ 100) (hz_m_many : m_many ≤ 64) (hz_m_readMany : m_readMany ≤ 64) (hz_m_size : m_size ≤ 64) (hR_mn : RB 0 255 mn) : ctI l yX9_spread wsX9_spread ({ frames := 2, cells := 0, slots := 0, locals := 120 } : Room) D (tyIJ cI cJ cK) [.ref m0, .int l9, .int r9, .int p9] (wl_k_X9_spread cI cJ cK m0 a_row a_tape a_number a_read a_readBits a_stands a_parted a_bitsWere a_stood a_chosen a_bestChosen a_often a_sorted a_risen a_risenWays m_thrown (nI m_told) (nI m_taped) (nI m_at) (nI m_to) (nI m_many) (nI m_readMany) m_fewest (nI m_size) mn mf mr) (fun (r : Int32) (u : va_W) => (∃ (m_thrown' : Int32), u = (wl_k_X9_spread cI cJ cK m0 a_row a_tape a_number a_read a_readBits a_stands a_parted a_bitsWere a_stood a_chosen a_bestChosen a_often a_sorted a_risen a_risenWays m_thrown' (nI m_told) (nI m_taped) (nI m_at) (nI m_to) (nI m_many) (nI m_readMany) m_fewest (nI m_size) mn mf mr) ∧ r = (-1) ∧ (l9.toInt < 0 ∨ r9.toInt < l9.toInt ∨ m_many < r9.toInt ∨ p9.toInt < 1 ∨ 4 < p9.toInt)) ∨ (∃ (t' : Nat) (m_thrown' : Int32) (m_told' : Nat) (mf' : Nat → Int32) (mr' : Nat → Int64), u = (wl_k_X9_spread cI cJ cK m0 a_row a_tape a_number a_read a_readBits a_stands a_parted a_bitsWere a_stood a_chosen a_bestChosen a_often a_sorted a_risen a_risenWays m_thrown' (nI m_told') (nI m_taped) (nI m_at) (nI m_to) (nI m_many) (nI m_readMany) m_fewest (nI m_size) mn mf' mr') ∧ r = nI t' ∧ m_told' ≤ 64 ∧ 0 ≤ l9.toInt ∧ l9.toInt ≤ r9.toInt ∧ r9.toInt ≤ m_many ∧ 1 ≤ p9.toInt ∧ p9.toInt ≤ 4 ∧ t' = fb_ct (spP mn p9.toInt.toNat l9.toInt.toNat r9.toInt.toNat) (2 ^ p9.toInt.toNat) ∧ m_told' = 2 ^ p9.toInt.toNat)) := by
  refine ctI.of (cc := cX9_spread) (maxL := 8) (ret := (some .int)) (by decide) rfl (Nat.le_of_ble_eq_true rfl) ?_
  intro p e s m below meth c ls A hx hb hr hts hown hml hlocks hname hA hK hN hP hD hS hl
  have hl : lv_has ls 8 [(0, .ref m0), (1, .int l9), (2, .int r9), (3, .int p9)] := hl
  have hown : s.vm.findClass RX9 = some m.cls := hown
  have hi9 : ∀ w ∈ u_ws RX9 TX9 24, w ∈ wsX9_spread := by decide +kernel
  have fl1 := hts (.fieldLink RX9 1 "PlaneColumnModel" "thrown" "I") (by decide +kernel)
  have fl11 := hts (.fieldLink RX9 11 "PlaneColumnModel" "told" "I") (by decide +kernel)
  refine lv_aload_n hx hb dX9_spread_0 rfl (lv_at hl 0 rfl) ?_
  refine lv_iconst (v := 0) hx hb dX9_spread_1 (by decide +kernel) ?_
  refine va_put (ci := 9) (v := .int 0) (ty := (.int)) (C := RX9) (T := TX9) (N := 24) hx hb hts hi9 tyX9 tyX9_ok nmX9 hown hK hP hD hS 0 rfl rfl 0 (by decide) fl1 (fun _ h9 => h9) rfl (by decide +kernel) rfl rfl (Nat.le_of_ble_eq_true rfl) dX9_spread_2 (fun H locs hP hD hS => ?_)
  have hP : va_P D vwCl (wl_k_X9_spread cI cJ cK m0 a_row a_tape a_number a_read a_readBits a_stands a_parted a_bitsWere a_stood a_chosen a_bestChosen a_often a_sorted a_risen a_risenWays 0 (nI m_told) (nI m_taped) (nI m_at) (nI m_to) (nI m_many) (nI m_readMany) m_fewest (nI m_size) mn mf mr) H := hP
  have hD : va_D A (wl_k_X9_spread cI cJ cK m0 a_row a_tape a_number a_read a_readBits a_stands a_parted a_bitsWere a_stood a_chosen a_bestChosen a_often a_sorted a_risen a_risenWays 0 (nI m_told) (nI m_taped) (nI m_at) (nI m_to) (nI m_many) (nI m_readMany) m_fewest (nI m_size) mn mf mr) := hD
  refine lv_aload_n hx hb dX9_spread_5 rfl (lv_at hl 0 rfl) ?_
  refine lv_iload_n hx hb dX9_spread_6 rfl (lv_at hl 1 rfl) ?_
  refine lv_iload_n hx hb dX9_spread_7 rfl (lv_at hl 2 rfl) ?_
  refine my_gpI (my_pV (As := [.int l9, .int r9]) (rest := []) (ci := 9) ⟨hx, hb, hml, hown, hts⟩ (cwV 2 hts gX9_spread_X9_isSpan rfl rfl rfl (by decide +kernel) ⟨Nat.le_of_ble_eq_true rfl, Nat.le_of_ble_eq_true rfl⟩) hN hK hP [0] rfl 0 rfl rfl rfl rfl hl.1 rfl (Nat.le_of_ble_eq_true rfl) dX9_spread_8 ⟨Nat.le_of_ble_eq_true rfl, Nat.le_of_ble_eq_true rfl⟩  (k_X9_isSpan l D cI cJ cK m0 a_row a_tape a_number a_read a_readBits a_stands a_parted a_bitsWere a_stood a_chosen a_bestChosen a_often a_sorted a_risen a_risenWays (0 : Int32) m_told m_taped m_at m_to m_many m_readMany m_fewest m_size l9 r9 (by first | assumption | omega | decide +kernel) (by first | assumption | omega | decide +kernel) (by first | assumption | omega | decide +kernel) (by first | assumption | omega | decide +kernel) (by first | assumption | omega | decide +kernel) (by first | assumption | omega | decide +kernel) (by first | assumption | omega | decide +kernel))) (fun r hp => ?_)
  rcases hp with ⟨a_1, b_2, rfl, rfl, rfl, ha_3, hb_4⟩ | ⟨rfl, ho_5⟩
  ·
    refine lv_if_eq (tgt := 26) hx hb dX9_spread_11 (by decide) (fun c11 => ?_) (fun c11 => ?_)
    ·
      exact absurd c11 (by decide +kernel)
    ·
      refine lv_iload_n hx hb dX9_spread_14 rfl (lv_at hl 3 rfl) ?_
      refine lv_i2l (v := p9.toInt64) hx hb dX9_spread_15 rfl ?_
      refine lv_lconst (v := 1) hx hb dX9_spread_16 (by decide +kernel) ?_
      refine lv_ldc2 (v := 4) hx hb hown (hts (.constantLong RX9 208 (4)) (by decide +kernel)) dX9_spread_17 ?_
      refine my_gpI (my_pS (As := [.long p9.toInt64, .long 1, .long 4]) (rest := []) ⟨hx, hb, hml, hown, hts⟩ (va_cwS 3 hts gX9_spread_X9_in rfl rfl rfl (by decide +kernel) ⟨Nat.le_of_ble_eq_true rfl, Nat.le_of_ble_eq_true rfl⟩) hN hK hP [] rfl rfl hl.1 rfl (Nat.le_of_ble_eq_true rfl) dX9_spread_20 ⟨Nat.le_of_ble_eq_true rfl, Nat.le_of_ble_eq_true rfl⟩  (k_X9_in l D cI cJ cK p9.toInt64 (1 : Int64) (4 : Int64) p9.toInt (Int32.toInt_toInt64 _) (1 : Int) (by decide +kernel) (4 : Int) (by decide +kernel))) (fun r hp => ?_)
      rcases hp with ⟨rfl, ha_6, hb_7⟩ | ⟨rfl, ho_8⟩
      ·
        refine lv_if_ne (tgt := 28) hx hb dX9_spread_23 (by decide) (fun c23 => ?_) (fun c23 => ?_)
        ·
          rcases (show p9 = 1 ∨ p9 = 2 ∨ p9 = 3 ∨ p9 = 4 from by
            rcases (show p9.toInt = 1 ∨ p9.toInt = 2 ∨ p9.toInt = 3 ∨ p9.toInt = 4 from by omega) with h | h | h | h
            · exact Or.inl (my_eqI h (by decide +kernel))
            · exact Or.inr (Or.inl (my_eqI h (by decide +kernel)))
            · exact Or.inr (Or.inr (Or.inl (my_eqI h (by decide +kernel))))
            · exact Or.inr (Or.inr (Or.inr (my_eqI h (by decide +kernel))))
            ) with rfl | rfl | rfl | rfl
          ·
            refine lv_aload_n hx hb dX9_spread_28 rfl (lv_at hl 0 rfl) ?_
            refine lv_iconst (v := 0) hx hb dX9_spread_29 (by decide +kernel) ?_
            refine lv_iload_n hx hb dX9_spread_30 rfl (lv_at hl 1 rfl) ?_
            refine lv_iload_n hx hb dX9_spread_31 rfl (lv_at hl 2 rfl) ?_
            refine my_goVS (wc := (wl_k0_X9_counts cI cJ cK m0 a_row a_tape a_number a_read a_readBits a_stands a_parted a_bitsWere a_stood a_chosen a_bestChosen a_often a_sorted a_risen a_risenWays 0 (nI m_told) (nI m_taped) (nI m_at) (nI m_to) (nI m_many) (nI m_readMany) m_fewest (nI m_size) mn mf)) hP hD hS hA [0, 1, 2] rfl [some 0, some 1, some 2] (by decide +kernel) (my_cV (As := [.int 0, .int (nI a_1), .int (nI b_2)]) (rest := []) (ci := 9) (wc := (wl_k0_X9_counts cI cJ cK m0 a_row a_tape a_number a_read a_readBits a_stands a_parted a_bitsWere a_stood a_chosen a_bestChosen a_often a_sorted a_risen a_risenWays 0 (nI m_told) (nI m_taped) (nI m_at) (nI m_to) (nI m_many) (nI m_readMany) m_fewest (nI m_size) mn mf)) ⟨hx, hb, hml, hown, hts⟩ (cwV 3 hts gX9_spread_X9_counts rfl rfl rfl (by decide +kernel) ⟨Nat.le_of_ble_eq_true rfl, Nat.le_of_ble_eq_true rfl⟩) hN hK hP hD [0, 1, 2] rfl (by decide) rfl 0 rfl rfl rfl rfl hl.1 rfl (Nat.le_of_ble_eq_true rfl) dX9_spread_32 ⟨Nat.le_of_ble_eq_true rfl, Nat.le_of_ble_eq_true rfl⟩  ((k0_X9_counts l D cI cJ cK m0 a_row a_tape a_number a_read a_readBits a_stands a_parted a_bitsWere a_stood a_chosen a_bestChosen a_often a_sorted a_risen a_risenWays (0 : Int32) m_told m_taped m_at m_to m_many m_readMany m_fewest m_size mn mf a_1 b_2 (by first | assumption | omega | decide +kernel) (by first | assumption | omega | decide +kernel) (by first | assumption | omega | decide +kernel) (by first | assumption | omega | decide +kernel) (by first | assumption | omega | decide +kernel) (by first | assumption | omega | decide +kernel) (by first | assumption | omega | decide +kernel) hR_mn (by first | assumption | omega | decide +kernel) (by first | assumption | omega | decide +kernel)) _)) (fun u H locs hp hPD hS => ?_)
            obtain ⟨mf_9, rfl, hcn0, hco0⟩ := hp
            obtain ⟨hP, hD⟩ := hPD rfl
            have hP : va_P D vwCl (wl_k_X9_spread cI cJ cK m0 a_row a_tape a_number a_read a_readBits a_stands a_parted a_bitsWere a_stood a_chosen a_bestChosen a_often a_sorted a_risen a_risenWays 0 (nI m_told) (nI m_taped) (nI m_at) (nI m_to) (nI m_many) (nI m_readMany) m_fewest (nI m_size) mn mf_9 mr) H := hP
            have hD : va_D A (wl_k_X9_spread cI cJ cK m0 a_row a_tape a_number a_read a_readBits a_stands a_parted a_bitsWere a_stood a_chosen a_bestChosen a_often a_sorted a_risen a_risenWays 0 (nI m_told) (nI m_taped) (nI m_at) (nI m_to) (nI m_many) (nI m_readMany) m_fewest (nI m_size) mn mf_9 mr) := hD
            refine lv_sipush (v := 256) hx hb dX9_spread_35 (by decide +kernel) ?_
            refine lv_iload_n hx hb dX9_spread_38 rfl (lv_at hl 3 rfl) ?_
            refine lv_ishr hx hb dX9_spread_39 ?_
            refine my_eqi (y := 128) (by decide +kernel) ?_
            refine lv_istore (lv' := [(4, .int 128), (0, .ref m0), (1, .int (nI a_1)), (2, .int (nI b_2)), (3, .int 1)]) hx hb dX9_spread_40 hl (by decide) rfl (fun ls hl => ?_)
            refine lv_iconst (v := 0) hx hb dX9_spread_42 (by decide +kernel) ?_
            refine lv_istore (lv' := [(5, .int 0), (4, .int 128), (0, .ref m0), (1, .int (nI a_1)), (2, .int (nI b_2)), (3, .int 1)]) hx hb dX9_spread_43 hl (by decide) rfl (fun ls hl => ?_)
            refine lv_aload_n hx hb dX9_spread_45 rfl (lv_at hl 2 rfl) ?_
            refine lv_iconst (v := 0) hx hb dX9_spread_46 (by decide +kernel) ?_
            refine va_put (ci := 9) (v := .int 0) (ty := (.int)) (C := RX9) (T := TX9) (N := 24) hx hb hts hi9 tyX9 tyX9_ok nmX9 hown hK hP hD hS 0 rfl rfl 1 (by decide) fl11 (fun _ h9 => h9) rfl (by decide +kernel) rfl rfl (Nat.le_of_ble_eq_true rfl) dX9_spread_47 (fun H locs hP hD hS => ?_)
            have hP : va_P D vwCl (wl_k_X9_spread cI cJ cK m0 a_row a_tape a_number a_read a_readBits a_stands a_parted a_bitsWere a_stood a_chosen a_bestChosen a_often a_sorted a_risen a_risenWays 0 0 (nI m_taped) (nI m_at) (nI m_to) (nI m_many) (nI m_readMany) m_fewest (nI m_size) mn mf_9 mr) H := hP
            have hD : va_D A (wl_k_X9_spread cI cJ cK m0 a_row a_tape a_number a_read a_readBits a_stands a_parted a_bitsWere a_stood a_chosen a_bestChosen a_often a_sorted a_risen a_risenWays 0 0 (nI m_taped) (nI m_at) (nI m_to) (nI m_many) (nI m_readMany) m_fewest (nI m_size) mn mf_9 mr) := hD
            refine lv_iconst (v := 0) hx hb dX9_spread_50 (by decide +kernel) ?_
            refine lv_istore (lv' := [(6, .int 0), (5, .int 0), (4, .int 128), (0, .ref m0), (1, .int (nI a_1)), (2, .int (nI b_2)), (3, .int 1)]) hx hb dX9_spread_51 hl (by decide) rfl (fun ls hl => ?_)
            have loop53 : ∀ (n9 : Nat) (f : Nat) (t : Nat) (m0_told_53 : Nat) (a_row_53 : Nat → Int64), 256 - f < n9 → (t ≤ 16) → (f ≤ 256) → (m0_told_53 * 128 = f) → (t ≤ m0_told_53) → (t = fb_ct (spP mn 1 a_1 b_2) m0_told_53) → (m0_told_53 ≤ 64) → ∀ (H : Heap) (locs : List Loc) (ls : Array Slot), va_P D vwCl (wl_k_X9_spread cI cJ cK m0 a_row a_tape a_number a_read a_readBits a_stands a_parted a_bitsWere a_stood a_chosen a_bestChosen a_often a_sorted a_risen a_risenWays 0 (nI m0_told_53) (nI m_taped) (nI m_at) (nI m_to) (nI m_many) (nI m_readMany) m_fewest (nI m_size) mn mf_9 a_row_53) H → va_D A (wl_k_X9_spread cI cJ cK m0 a_row a_tape a_number a_read a_readBits a_stands a_parted a_bitsWere a_stood a_chosen a_bestChosen a_often a_sorted a_risen a_risenWays 0 (nI m0_told_53) (nI m_taped) (nI m_at) (nI m_to) (nI m_many) (nI m_readMany) m_fewest (nI m_size) mn mf_9 a_row_53) → va_S A s.heap H locs → lv_has ls 8 [(6, .int (nI f)), (5, .int (nI t)), (4, .int 128), (0, .ref m0), (1, .int (nI a_1)), (2, .int (nI b_2)), (3, .int 1)] → W p l e ({ frames := 2, cells := 0, slots := 0, locals := 120 } : Room) s m [.ref m0, .int (nI a_1), .int (nI b_2), .int (1 : Int32)].toArray below meth c H locs 0 0 (MQ below (va_Qi (fun (r : Int32) (u : va_W) => (∃ (m_thrown' : Int32), u = (wl_k_X9_spread cI cJ cK m0 a_row a_tape a_number a_read a_readBits a_stands a_parted a_bitsWere a_stood a_chosen a_bestChosen a_often a_sorted a_risen a_risenWays m_thrown' (nI m_told) (nI m_taped) (nI m_at) (nI m_to) (nI m_many) (nI m_readMany) m_fewest (nI m_size) mn mf mr) ∧ r = (-1) ∧ ((nI a_1).toInt < 0 ∨ (nI b_2).toInt < (nI a_1).toInt ∨ m_many < (nI b_2).toInt ∨ (1 : Int32).toInt < 1 ∨ 4 < (1 : Int32).toInt)) ∨ (∃ (t' : Nat) (m_thrown' : Int32) (m_told' : Nat) (mf' : Nat → Int32) (mr' : Nat → Int64), u = (wl_k_X9_spread cI cJ cK m0 a_row a_tape a_number a_read a_readBits a_stands a_parted a_bitsWere a_stood a_chosen a_bestChosen a_often a_sorted a_risen a_risenWays m_thrown' (nI m_told') (nI m_taped) (nI m_at) (nI m_to) (nI m_many) (nI m_readMany) m_fewest (nI m_size) mn mf' mr') ∧ r = nI t' ∧ m_told' ≤ 64 ∧ 0 ≤ (nI a_1).toInt ∧ (nI a_1).toInt ≤ (nI b_2).toInt ∧ (nI b_2).toInt ≤ m_many ∧ 1 ≤ (1 : Int32).toInt ∧ (1 : Int32).toInt ≤ 4 ∧ t' = fb_ct (spP mn (1 : Int32).toInt.toNat (nI a_1).toInt.toNat (nI b_2).toInt.toNat) (2 ^ (1 : Int32).toInt.toNat) ∧ m_told' = 2 ^ (1 : Int32).toInt.toNat)) (my_B D (tyIJ cI cJ cK) A) A) [.ref m0, .int (nI a_1), .int (nI b_2), .int (1 : Int32)].toArray s 0 0 A) (F0 m 53 ls []) := by
              intro n9
              induction n9 with
              | zero =>
                intro f t m0_told_53 a_row_53 hn9
                exact absurd hn9 (Nat.not_lt_zero _)
              | succ n9 ih53 =>
                intro f t m0_told_53 a_row_53 hn9 hk_t hk_f htd htt ht hz_m0_told_53 H locs ls hP hD hS hl
                have hbk := fun h9 => cnl_blk hR_mn (p := 1) (h := m0_told_53) (a := a_1) (w := 128) (by decide) h9 b_2
                refine lv_iload hx hb dX9_spread_53 (lv_at hl 0 rfl) ?_
                refine lv_sipush (v := 256) hx hb dX9_spread_55 (by decide +kernel) ?_
                refine lv_icmp_ge (tgt := 112) hx hb dX9_spread_58 (by decide) (fun c58 => ?_) (fun c58 => ?_)
                ·
                  have d58 : ((f : Nat) : Int) ≥ (256 : Int) := my_ge c58 (nI_toInt (by omega)) (by decide +kernel)
                  have hve : m0_told_53 = 2 := by omega
                  refine lv_iload hx hb dX9_spread_112 (lv_at hl 1 rfl) ?_
                  have hsI_l9 : (nI a_1).toInt = ((a_1 : Nat) : Int) := nI_toInt (by omega)
                  have hsN_l9 : (nI a_1).toInt.toNat = a_1 := nIt (by omega)
                  have hsI_r9 : (nI b_2).toInt = ((b_2 : Nat) : Int) := nI_toInt (by omega)
                  have hsN_r9 : (nI b_2).toInt.toNat = b_2 := nIt (by omega)
                  exact my_retI hx hb hr hlocks hK hS (wl_k_X9_spread cI cJ cK m0 a_row a_tape a_number a_read a_readBits a_stands a_parted a_bitsWere a_stood a_chosen a_bestChosen a_often a_sorted a_risen a_risenWays 0 (nI m0_told_53) (nI m_taped) (nI m_at) (nI m_to) (nI m_many) (nI m_readMany) m_fewest (nI m_size) mn mf_9 a_row_53) hP hD (Or.inr (⟨t, 0, m0_told_53, mf_9, a_row_53, rfl, rfl, (by first | assumption | omega | trivial | decide +kernel), (by first | assumption | omega | trivial | decide +kernel), (by first | assumption | omega | trivial | decide +kernel), (by first | assumption | omega | trivial | decide +kernel), (by first | assumption | omega | trivial | decide +kernel), (by first | assumption | omega | trivial | decide +kernel), (by rw [hsN_l9, hsN_r9]; rw [hve] at ht; exact ht), (hve.trans (by decide +kernel))⟩)) dX9_spread_114
                ·
                  have d58 : ((f : Nat) : Int) < (256 : Int) := my_nge c58 (nI_toInt (by omega)) (by decide +kernel)
                  refine lv_aload_n hx hb dX9_spread_61 rfl (lv_at hl 3 rfl) ?_
                  refine lv_iconst (v := 0) hx hb dX9_spread_62 (by decide +kernel) ?_
                  refine lv_iload hx hb dX9_spread_63 (lv_at hl 0 rfl) ?_
                  refine lv_iload hx hb dX9_spread_65 (lv_at hl 0 rfl) ?_
                  refine lv_iload hx hb dX9_spread_67 (lv_at hl 2 rfl) ?_
                  refine lv_iadd hx hb dX9_spread_69 ?_
                  refine my_eqi (y := nI (f + 128)) (my_addN f 128) ?_
                  refine lv_iconst (v := 1) hx hb dX9_spread_70 (by decide +kernel) ?_
                  refine lv_isub hx hb dX9_spread_71 ?_
                  refine my_eqi (y := nI ((f + 128) - 1)) (my_subN (a := f + 128) (b := 1) (by omega)) ?_
                  refine my_gpI (my_pV (As := [.int 0, .int (nI f), .int (nI ((f + 128) - 1))]) (rest := []) (ci := 9) ⟨hx, hb, hml, hown, hts⟩ (cwV 3 hts gX9_spread_X9_within rfl rfl rfl (by decide +kernel) ⟨Nat.le_of_ble_eq_true rfl, Nat.le_of_ble_eq_true rfl⟩) hN hK hP [0, 2] rfl 0 rfl rfl rfl rfl hl.1 rfl (Nat.le_of_ble_eq_true rfl) dX9_spread_72 ⟨Nat.le_of_ble_eq_true rfl, Nat.le_of_ble_eq_true rfl⟩  (kw_X9_within l D cI cJ cK m0 a_row a_tape a_number a_read a_readBits a_stands a_parted a_bitsWere a_stood a_chosen a_bestChosen a_often a_sorted a_risen a_risenWays (0 : Int32) m0_told_53 m_taped m_at m_to m_many m_readMany m_fewest m_size mf_9 f ((f + 128) - 1) (cnF mn a_1 b_2) (by first | assumption | omega | decide +kernel) (by first | assumption | omega | decide +kernel) (by first | assumption | omega | decide +kernel) (by first | assumption | omega | decide +kernel) (by first | assumption | omega | decide +kernel) (by first | assumption | omega | decide +kernel) (by first | assumption | omega | decide +kernel) (by first | assumption | omega | decide +kernel) (by first | assumption | omega | decide +kernel) (hcn0) (fun v => cnF_64 (by omega)))) (fun r hp => ?_)
                  obtain ⟨t_10, rfl, hwt, hq_11⟩ := hp
                  have hs6 := cnF_sum hR_mn (a := a_1) (b := b_2) (by omega); have hm6 := sm_mono (cnF mn a_1 b_2) (show f + 128 - 1 + 1 ≤ 256 by omega); have hb2 := hbk (by omega)
                  rw [show m0_told_53 * 128 = f from htd, show (m0_told_53 + 1) * 128 = f + 128 - 1 + 1 from (by omega)] at hb2
                  refine lv_istore (lv' := [(7, .int (nI t_10)), (6, .int (nI f)), (5, .int (nI t)), (4, .int 128), (0, .ref m0), (1, .int (nI a_1)), (2, .int (nI b_2)), (3, .int 1)]) hx hb dX9_spread_75 hl (by decide) rfl (fun ls hl => ?_)
                  refine lv_iload hx hb dX9_spread_77 (lv_at hl 2 rfl) ?_
                  refine lv_iload hx hb dX9_spread_79 (lv_at hl 0 rfl) ?_
                  refine lv_if_le (tgt := 88) hx hb dX9_spread_81 (by decide) (fun c81 => ?_) (fun c81 => ?_)
                  ·
                    have d81 : ((t_10 : Nat) : Int) ≤ (0 : Int) := my_le c81 (nI_toInt (by omega)) (by decide +kernel)
                    refine lv_iconst (v := 0) hx hb dX9_spread_88 (by decide +kernel) ?_
                    refine my_gpI (my_pS (As := [.int 0]) (rest := [.int (nI t)]) ⟨hx, hb, hml, hown, hts⟩ (va_cwS 1 hts gX9_spread_X9_flag rfl rfl rfl (by decide +kernel) ⟨Nat.le_of_ble_eq_true rfl, Nat.le_of_ble_eq_true rfl⟩) hN hK hP [] rfl rfl hl.1 rfl (Nat.le_of_ble_eq_true rfl) dX9_spread_89 ⟨Nat.le_of_ble_eq_true rfl, Nat.le_of_ble_eq_true rfl⟩  (k0_X9_flag l D cI cJ cK )) (fun r hp => ?_)
                    obtain rfl := hp
                    refine lv_iadd hx hb dX9_spread_92 ?_
                    refine my_eqi (y := nI t) (my_addN t 0) ?_
                    refine lv_istore (lv' := [(5, .int (nI t)), (7, .int (nI t_10)), (6, .int (nI f)), (4, .int 128), (0, .ref m0), (1, .int (nI a_1)), (2, .int (nI b_2)), (3, .int 1)]) hx hb dX9_spread_93 hl (by decide) rfl (fun ls hl => ?_)
                    refine lv_aload_n hx hb dX9_spread_95 rfl (lv_at hl 4 rfl) ?_
                    refine lv_iload hx hb dX9_spread_96 (lv_at hl 1 rfl) ?_
                    refine lv_i2l (v := lN t_10) hx hb dX9_spread_98 (nI_l (by omega)) ?_
                    refine my_goVS (wc := (wl_k_X9_enters cI cJ cK m0 a_row a_tape a_number a_read a_readBits a_stands a_parted a_bitsWere a_stood a_chosen a_bestChosen a_often a_sorted a_risen a_risenWays 0 (nI m0_told_53) (nI m_taped) (nI m_at) (nI m_to) (nI m_many) (nI m_readMany) m_fewest (nI m_size) a_row_53)) hP hD hS hA [0, 3] rfl [some 0, none, none, some 1] (by decide +kernel) (my_cV (As := [.long (lN t_10)]) (rest := []) (ci := 9) (wc := (wl_k_X9_enters cI cJ cK m0 a_row a_tape a_number a_read a_readBits a_stands a_parted a_bitsWere a_stood a_chosen a_bestChosen a_often a_sorted a_risen a_risenWays 0 (nI m0_told_53) (nI m_taped) (nI m_at) (nI m_to) (nI m_many) (nI m_readMany) m_fewest (nI m_size) a_row_53)) ⟨hx, hb, hml, hown, hts⟩ (cwV 1 hts gX9_spread_X9_enters rfl rfl rfl (by decide +kernel) ⟨Nat.le_of_ble_eq_true rfl, Nat.le_of_ble_eq_true rfl⟩) hN hK hP hD [0, 3] rfl (by decide) rfl 0 rfl rfl rfl rfl hl.1 rfl (Nat.le_of_ble_eq_true rfl) dX9_spread_99 ⟨Nat.le_of_ble_eq_true rfl, Nat.le_of_ble_eq_true rfl⟩  ((k_X9_enters l D cI cJ cK m0 a_row a_tape a_number a_read a_readBits a_stands a_parted a_bitsWere a_stood a_chosen a_bestChosen a_often a_sorted a_risen a_risenWays (0 : Int32) m0_told_53 m_taped m_at m_to m_many m_readMany m_fewest m_size a_row_53 (lN t_10) (by first | assumption | omega | decide +kernel) (by first | assumption | omega | decide +kernel) (by first | assumption | omega | decide +kernel) (by first | assumption | omega | decide +kernel) (by first | assumption | omega | decide +kernel) (by first | assumption | omega | decide +kernel) (by first | assumption | omega | decide +kernel) (by first | assumption | omega | decide +kernel)) _)) (fun u H locs hp hPD hS => ?_)
                    obtain ⟨m_told_12, mr_13, rfl, hhz_m_told_14, ht_15⟩ := hp
                    obtain ⟨hP, hD⟩ := hPD rfl
                    have hP : va_P D vwCl (wl_k_X9_spread cI cJ cK m0 a_row a_tape a_number a_read a_readBits a_stands a_parted a_bitsWere a_stood a_chosen a_bestChosen a_often a_sorted a_risen a_risenWays 0 (nI m_told_12) (nI m_taped) (nI m_at) (nI m_to) (nI m_many) (nI m_readMany) m_fewest (nI m_size) mn mf_9 mr_13) H := hP
                    have hD : va_D A (wl_k_X9_spread cI cJ cK m0 a_row a_tape a_number a_read a_readBits a_stands a_parted a_bitsWere a_stood a_chosen a_bestChosen a_often a_sorted a_risen a_risenWays 0 (nI m_told_12) (nI m_taped) (nI m_at) (nI m_to) (nI m_many) (nI m_readMany) m_fewest (nI m_size) mn mf_9 mr_13) := hD
                    refine lv_iload hx hb dX9_spread_102 (lv_at hl 2 rfl) ?_
                    refine lv_iload hx hb dX9_spread_104 (lv_at hl 3 rfl) ?_
                    refine lv_iadd hx hb dX9_spread_106 ?_
                    refine my_eqi (y := nI (f + 128)) (my_addN f 128) ?_
                    refine lv_istore (lv' := [(6, .int (nI (f + 128))), (5, .int (nI t)), (7, .int (nI t_10)), (4, .int 128), (0, .ref m0), (1, .int (nI a_1)), (2, .int (nI b_2)), (3, .int 1)]) hx hb dX9_spread_107 hl (by decide) rfl (fun ls hl => ?_)
                    refine lv_goto (tgt := 53) hx hb dX9_spread_109 (by decide) ?_
                    exact ih53  (f + 128) t m_told_12 mr_13 (by omega) (by first | assumption | omega | decide +kernel) (by first | assumption | omega | decide +kernel) (by first | assumption | omega | decide +kernel) (by first | assumption | omega | decide +kernel) (by rw [show m_told_12 = m0_told_53 + 1 from (by omega)]; first | exact ct_yes ht (decide_eq_true (by omega)) | exact ct_no ht (decide_eq_false (by omega))) (by first | assumption | omega | decide +kernel) _ _ ls hP hD hS (lv_sub hl [0, 1, 3, 4, 5, 6, 7] rfl)
                  ·
                    have d81 : ((t_10 : Nat) : Int) > (0 : Int) := my_nle c81 (nI_toInt (by omega)) (by decide +kernel)
                    refine lv_iconst (v := 1) hx hb dX9_spread_84 (by decide +kernel) ?_
                    refine lv_goto (tgt := 89) hx hb dX9_spread_85 (by decide) ?_
                    refine my_gpI (my_pS (As := [.int 1]) (rest := [.int (nI t)]) ⟨hx, hb, hml, hown, hts⟩ (va_cwS 1 hts gX9_spread_X9_flag rfl rfl rfl (by decide +kernel) ⟨Nat.le_of_ble_eq_true rfl, Nat.le_of_ble_eq_true rfl⟩) hN hK hP [] rfl rfl hl.1 rfl (Nat.le_of_ble_eq_true rfl) dX9_spread_89 ⟨Nat.le_of_ble_eq_true rfl, Nat.le_of_ble_eq_true rfl⟩  (k1_X9_flag l D cI cJ cK )) (fun r hp => ?_)
                    obtain rfl := hp
                    refine lv_iadd hx hb dX9_spread_92 ?_
                    refine my_eqi (y := nI (t + 1)) (my_addN t 1) ?_
                    refine lv_istore (lv' := [(5, .int (nI (t + 1))), (7, .int (nI t_10)), (6, .int (nI f)), (4, .int 128), (0, .ref m0), (1, .int (nI a_1)), (2, .int (nI b_2)), (3, .int 1)]) hx hb dX9_spread_93 hl (by decide) rfl (fun ls hl => ?_)
                    refine lv_aload_n hx hb dX9_spread_95 rfl (lv_at hl 4 rfl) ?_
                    refine lv_iload hx hb dX9_spread_96 (lv_at hl 1 rfl) ?_
                    refine lv_i2l (v := lN t_10) hx hb dX9_spread_98 (nI_l (by omega)) ?_
                    refine my_goVS (wc := (wl_k_X9_enters cI cJ cK m0 a_row a_tape a_number a_read a_readBits a_stands a_parted a_bitsWere a_stood a_chosen a_bestChosen a_often a_sorted a_risen a_risenWays 0 (nI m0_told_53) (nI m_taped) (nI m_at) (nI m_to) (nI m_many) (nI m_readMany) m_fewest (nI m_size) a_row_53)) hP hD hS hA [0, 3] rfl [some 0, none, none, some 1] (by decide +kernel) (my_cV (As := [.long (lN t_10)]) (rest := []) (ci := 9) (wc := (wl_k_X9_enters cI cJ cK m0 a_row a_tape a_number a_read a_readBits a_stands a_parted a_bitsWere a_stood a_chosen a_bestChosen a_often a_sorted a_risen a_risenWays 0 (nI m0_told_53) (nI m_taped) (nI m_at) (nI m_to) (nI m_many) (nI m_readMany) m_fewest (nI m_size) a_row_53)) ⟨hx, hb, hml, hown, hts⟩ (cwV 1 hts gX9_spread_X9_enters rfl rfl rfl (by decide +kernel) ⟨Nat.le_of_ble_eq_true rfl, Nat.le_of_ble_eq_true rfl⟩) hN hK hP hD [0, 3] rfl (by decide) rfl 0 rfl rfl rfl rfl hl.1 rfl (Nat.le_of_ble_eq_true rfl) dX9_spread_99 ⟨Nat.le_of_ble_eq_true rfl, Nat.le_of_ble_eq_true rfl⟩  ((k_X9_enters l D cI cJ cK m0 a_row a_tape a_number a_read a_readBits a_stands a_parted a_bitsWere a_stood a_chosen a_bestChosen a_often a_sorted a_risen a_risenWays (0 : Int32) m0_told_53 m_taped m_at m_to m_many m_readMany m_fewest m_size a_row_53 (lN t_10) (by first | assumption | omega | decide +kernel) (by first | assumption | omega | decide +kernel) (by first | assumption | omega | decide +kernel) (by first | assumption | omega | decide +kernel) (by first | assumption | omega | decide +kernel) (by first | assumption | omega | decide +kernel) (by first | assumption | omega | decide +kernel) (by first | assumption | omega | decide +kernel)) _)) (fun u H locs hp hPD hS => ?_)
                    obtain ⟨m_told_16, mr_17, rfl, hhz_m_told_18, ht_19⟩ := hp
                    obtain ⟨hP, hD⟩ := hPD rfl
                    have hP : va_P D vwCl (wl_k_X9_spread cI cJ cK m0 a_row a_tape a_number a_read a_readBits a_stands a_parted a_bitsWere a_stood a_chosen a_bestChosen a_often a_sorted a_risen a_risenWays 0 (nI m_told_16) (nI m_taped) (nI m_at) (nI m_to) (nI m_many) (nI m_readMany) m_fewest (nI m_size) mn mf_9 mr_17) H := hP
                    have hD : va_D A (wl_k_X9_spread cI cJ cK m0 a_row a_tape a_number a_read a_readBits a_stands a_parted a_bitsWere a_stood a_chosen a_bestChosen a_often a_sorted a_risen a_risenWays 0 (nI m_told_16) (nI m_taped) (nI m_at) (nI m_to) (nI m_many) (nI m_readMany) m_fewest (nI m_size) mn mf_9 mr_17) := hD
                    refine lv_iload hx hb dX9_spread_102 (lv_at hl 2 rfl) ?_
                    refine lv_iload hx hb dX9_spread_104 (lv_at hl 3 rfl) ?_
                    refine lv_iadd hx hb dX9_spread_106 ?_
                    refine my_eqi (y := nI (f + 128)) (my_addN f 128) ?_
                    refine lv_istore (lv' := [(6, .int (nI (f + 128))), (5, .int (nI (t + 1))), (7, .int (nI t_10)), (4, .int 128), (0, .ref m0), (1, .int (nI a_1)), (2, .int (nI b_2)), (3, .int 1)]) hx hb dX9_spread_107 hl (by decide) rfl (fun ls hl => ?_)
                    refine lv_goto (tgt := 53) hx hb dX9_spread_109 (by decide) ?_
                    exact ih53  (f + 128) (t + 1) m_told_16 mr_17 (by omega) (by first | assumption | omega | decide +kernel) (by first | assumption | omega | decide +kernel) (by first | assumption | omega | decide +kernel) (by first | assumption | omega | decide +kernel) (by rw [show m_told_16 = m0_told_53 + 1 from (by omega)]; first | exact ct_yes ht (decide_eq_true (by omega)) | exact ct_no ht (decide_eq_false (by omega))) (by first | assumption | omega | decide +kernel) _ _ ls hP hD hS (lv_sub hl [0, 1, 3, 4, 5, 6, 7] rfl)
            exact loop53 ((256 - 0) + 1) 0 0 0 mr (Nat.lt_succ_self _) (by first | assumption | omega | decide +kernel) (by first | assumption | omega | decide +kernel) (by first | assumption | omega | decide +kernel) (by first | assumption | omega | decide +kernel) (rfl) (by first | assumption | omega | decide +kernel) _ _ ls hP hD hS (lv_sub hl [0, 1, 2, 3, 4, 5, 6] rfl)
          ·
            refine lv_aload_n hx hb dX9_spread_28 rfl (lv_at hl 0 rfl) ?_
            refine lv_iconst (v := 0) hx hb dX9_spread_29 (by decide +kernel) ?_
            refine lv_iload_n hx hb dX9_spread_30 rfl (lv_at hl 1 rfl) ?_
            refine lv_iload_n hx hb dX9_spread_31 rfl (lv_at hl 2 rfl) ?_
            refine my_goVS (wc := (wl_k0_X9_counts cI cJ cK m0 a_row a_tape a_number a_read a_readBits a_stands a_parted a_bitsWere a_stood a_chosen a_bestChosen a_often a_sorted a_risen a_risenWays 0 (nI m_told) (nI m_taped) (nI m_at) (nI m_to) (nI m_many) (nI m_readMany) m_fewest (nI m_size) mn mf)) hP hD hS hA [0, 1, 2] rfl [some 0, some 1, some 2] (by decide +kernel) (my_cV (As := [.int 0, .int (nI a_1), .int (nI b_2)]) (rest := []) (ci := 9) (wc := (wl_k0_X9_counts cI cJ cK m0 a_row a_tape a_number a_read a_readBits a_stands a_parted a_bitsWere a_stood a_chosen a_bestChosen a_often a_sorted a_risen a_risenWays 0 (nI m_told) (nI m_taped) (nI m_at) (nI m_to) (nI m_many) (nI m_readMany) m_fewest (nI m_size) mn mf)) ⟨hx, hb, hml, hown, hts⟩ (cwV 3 hts gX9_spread_X9_counts rfl rfl rfl (by decide +kernel) ⟨Nat.le_of_ble_eq_true rfl, Nat.le_of_ble_eq_true rfl⟩) hN hK hP hD [0, 1, 2] rfl (by decide) rfl 0 rfl rfl rfl rfl hl.1 rfl (Nat.le_of_ble_eq_true rfl) dX9_spread_32 ⟨Nat.le_of_ble_eq_true rfl, Nat.le_of_ble_eq_true rfl⟩  ((k0_X9_counts l D cI cJ cK m0 a_row a_tape a_number a_read a_readBits a_stands a_parted a_bitsWere a_stood a_chosen a_bestChosen a_often a_sorted a_risen a_risenWays (0 : Int32) m_told m_taped m_at m_to m_many m_readMany m_fewest m_size mn mf a_1 b_2 (by first | assumption | omega | decide +kernel) (by first | assumption | omega | decide +kernel) (by first | assumption | omega | decide +kernel) (by first | assumption | omega | decide +kernel) (by first | assumption | omega | decide +kernel) (by first | assumption | omega | decide +kernel) (by first | assumption | omega | decide +kernel) hR_mn (by first | assumption | omega | decide +kernel) (by first | assumption | omega | decide +kernel)) _)) (fun u H locs hp hPD hS => ?_)
            obtain ⟨mf_20, rfl, hcn0, hco0⟩ := hp
            obtain ⟨hP, hD⟩ := hPD rfl
            have hP : va_P D vwCl (wl_k_X9_spread cI cJ cK m0 a_row a_tape a_number a_read a_readBits a_stands a_parted a_bitsWere a_stood a_chosen a_bestChosen a_often a_sorted a_risen a_risenWays 0 (nI m_told) (nI m_taped) (nI m_at) (nI m_to) (nI m_many) (nI m_readMany) m_fewest (nI m_size) mn mf_20 mr) H := hP
            have hD : va_D A (wl_k_X9_spread cI cJ cK m0 a_row a_tape a_number a_read a_readBits a_stands a_parted a_bitsWere a_stood a_chosen a_bestChosen a_often a_sorted a_risen a_risenWays 0 (nI m_told) (nI m_taped) (nI m_at) (nI m_to) (nI m_many) (nI m_readMany) m_fewest (nI m_size) mn mf_20 mr) := hD
            refine lv_sipush (v := 256) hx hb dX9_spread_35 (by decide +kernel) ?_
            refine lv_iload_n hx hb dX9_spread_38 rfl (lv_at hl 3 rfl) ?_
            refine lv_ishr hx hb dX9_spread_39 ?_
            refine my_eqi (y := 64) (by decide +kernel) ?_
            refine lv_istore (lv' := [(4, .int 64), (0, .ref m0), (1, .int (nI a_1)), (2, .int (nI b_2)), (3, .int 2)]) hx hb dX9_spread_40 hl (by decide) rfl (fun ls hl => ?_)
            refine lv_iconst (v := 0) hx hb dX9_spread_42 (by decide +kernel) ?_
            refine lv_istore (lv' := [(5, .int 0), (4, .int 64), (0, .ref m0), (1, .int (nI a_1)), (2, .int (nI b_2)), (3, .int 2)]) hx hb dX9_spread_43 hl (by decide) rfl (fun ls hl => ?_)
            refine lv_aload_n hx hb dX9_spread_45 rfl (lv_at hl 2 rfl) ?_
            refine lv_iconst (v := 0) hx hb dX9_spread_46 (by decide +kernel) ?_
            refine va_put (ci := 9) (v := .int 0) (ty := (.int)) (C := RX9) (T := TX9) (N := 24) hx hb hts hi9 tyX9 tyX9_ok nmX9 hown hK hP hD hS 0 rfl rfl 1 (by decide) fl11 (fun _ h9 => h9) rfl (by decide +kernel) rfl rfl (Nat.le_of_ble_eq_true rfl) dX9_spread_47 (fun H locs hP hD hS => ?_)
            have hP : va_P D vwCl (wl_k_X9_spread cI cJ cK m0 a_row a_tape a_number a_read a_readBits a_stands a_parted a_bitsWere a_stood a_chosen a_bestChosen a_often a_sorted a_risen a_risenWays 0 0 (nI m_taped) (nI m_at) (nI m_to) (nI m_many) (nI m_readMany) m_fewest (nI m_size) mn mf_20 mr) H := hP
            have hD : va_D A (wl_k_X9_spread cI cJ cK m0 a_row a_tape a_number a_read a_readBits a_stands a_parted a_bitsWere a_stood a_chosen a_bestChosen a_often a_sorted a_risen a_risenWays 0 0 (nI m_taped) (nI m_at) (nI m_to) (nI m_many) (nI m_readMany) m_fewest (nI m_size) mn mf_20 mr) := hD
            refine lv_iconst (v := 0) hx hb dX9_spread_50 (by decide +kernel) ?_
            refine lv_istore (lv' := [(6, .int 0), (5, .int 0), (4, .int 64), (0, .ref m0), (1, .int (nI a_1)), (2, .int (nI b_2)), (3, .int 2)]) hx hb dX9_spread_51 hl (by decide) rfl (fun ls hl => ?_)
            have loop53 : ∀ (n9 : Nat) (f : Nat) (t : Nat) (m0_told_53 : Nat) (a_row_53 : Nat → Int64), 256 - f < n9 → (t ≤ 16) → (f ≤ 256) → (m0_told_53 * 64 = f) → (t ≤ m0_told_53) → (t = fb_ct (spP mn 2 a_1 b_2) m0_told_53) → (m0_told_53 ≤ 64) → ∀ (H : Heap) (locs : List Loc) (ls : Array Slot), va_P D vwCl (wl_k_X9_spread cI cJ cK m0 a_row a_tape a_number a_read a_readBits a_stands a_parted a_bitsWere a_stood a_chosen a_bestChosen a_often a_sorted a_risen a_risenWays 0 (nI m0_told_53) (nI m_taped) (nI m_at) (nI m_to) (nI m_many) (nI m_readMany) m_fewest (nI m_size) mn mf_20 a_row_53) H → va_D A (wl_k_X9_spread cI cJ cK m0 a_row a_tape a_number a_read a_readBits a_stands a_parted a_bitsWere a_stood a_chosen a_bestChosen a_often a_sorted a_risen a_risenWays 0 (nI m0_told_53) (nI m_taped) (nI m_at) (nI m_to) (nI m_many) (nI m_readMany) m_fewest (nI m_size) mn mf_20 a_row_53) → va_S A s.heap H locs → lv_has ls 8 [(6, .int (nI f)), (5, .int (nI t)), (4, .int 64), (0, .ref m0), (1, .int (nI a_1)), (2, .int (nI b_2)), (3, .int 2)] → W p l e ({ frames := 2, cells := 0, slots := 0, locals := 120 } : Room) s m [.ref m0, .int (nI a_1), .int (nI b_2), .int (2 : Int32)].toArray below meth c H locs 0 0 (MQ below (va_Qi (fun (r : Int32) (u : va_W) => (∃ (m_thrown' : Int32), u = (wl_k_X9_spread cI cJ cK m0 a_row a_tape a_number a_read a_readBits a_stands a_parted a_bitsWere a_stood a_chosen a_bestChosen a_often a_sorted a_risen a_risenWays m_thrown' (nI m_told) (nI m_taped) (nI m_at) (nI m_to) (nI m_many) (nI m_readMany) m_fewest (nI m_size) mn mf mr) ∧ r = (-1) ∧ ((nI a_1).toInt < 0 ∨ (nI b_2).toInt < (nI a_1).toInt ∨ m_many < (nI b_2).toInt ∨ (2 : Int32).toInt < 1 ∨ 4 < (2 : Int32).toInt)) ∨ (∃ (t' : Nat) (m_thrown' : Int32) (m_told' : Nat) (mf' : Nat → Int32) (mr' : Nat → Int64), u = (wl_k_X9_spread cI cJ cK m0 a_row a_tape a_number a_read a_readBits a_stands a_parted a_bitsWere a_stood a_chosen a_bestChosen a_often a_sorted a_risen a_risenWays m_thrown' (nI m_told') (nI m_taped) (nI m_at) (nI m_to) (nI m_many) (nI m_readMany) m_fewest (nI m_size) mn mf' mr') ∧ r = nI t' ∧ m_told' ≤ 64 ∧ 0 ≤ (nI a_1).toInt ∧ (nI a_1).toInt ≤ (nI b_2).toInt ∧ (nI b_2).toInt ≤ m_many ∧ 1 ≤ (2 : Int32).toInt ∧ (2 : Int32).toInt ≤ 4 ∧ t' = fb_ct (spP mn (2 : Int32).toInt.toNat (nI a_1).toInt.toNat (nI b_2).toInt.toNat) (2 ^ (2 : Int32).toInt.toNat) ∧ m_told' = 2 ^ (2 : Int32).toInt.toNat)) (my_B D (tyIJ cI cJ cK) A) A) [.ref m0, .int (nI a_1), .int (nI b_2), .int (2 : Int32)].toArray s 0 0 A) (F0 m 53 ls []) := by
              intro n9
              induction n9 with
              | zero =>
                intro f t m0_told_53 a_row_53 hn9
                exact absurd hn9 (Nat.not_lt_zero _)
              | succ n9 ih53 =>
                intro f t m0_told_53 a_row_53 hn9 hk_t hk_f htd htt ht hz_m0_told_53 H locs ls hP hD hS hl
                have hbk := fun h9 => cnl_blk hR_mn (p := 2) (h := m0_told_53) (a := a_1) (w := 64) (by decide) h9 b_2
                refine lv_iload hx hb dX9_spread_53 (lv_at hl 0 rfl) ?_
                refine lv_sipush (v := 256) hx hb dX9_spread_55 (by decide +kernel) ?_
                refine lv_icmp_ge (tgt := 112) hx hb dX9_spread_58 (by decide) (fun c58 => ?_) (fun c58 => ?_)
                ·
                  have d58 : ((f : Nat) : Int) ≥ (256 : Int) := my_ge c58 (nI_toInt (by omega)) (by decide +kernel)
                  have hve : m0_told_53 = 4 := by omega
                  refine lv_iload hx hb dX9_spread_112 (lv_at hl 1 rfl) ?_
                  have hsI_l9 : (nI a_1).toInt = ((a_1 : Nat) : Int) := nI_toInt (by omega)
                  have hsN_l9 : (nI a_1).toInt.toNat = a_1 := nIt (by omega)
                  have hsI_r9 : (nI b_2).toInt = ((b_2 : Nat) : Int) := nI_toInt (by omega)
                  have hsN_r9 : (nI b_2).toInt.toNat = b_2 := nIt (by omega)
                  exact my_retI hx hb hr hlocks hK hS (wl_k_X9_spread cI cJ cK m0 a_row a_tape a_number a_read a_readBits a_stands a_parted a_bitsWere a_stood a_chosen a_bestChosen a_often a_sorted a_risen a_risenWays 0 (nI m0_told_53) (nI m_taped) (nI m_at) (nI m_to) (nI m_many) (nI m_readMany) m_fewest (nI m_size) mn mf_20 a_row_53) hP hD (Or.inr (⟨t, 0, m0_told_53, mf_20, a_row_53, rfl, rfl, (by first | assumption | omega | trivial | decide +kernel), (by first | assumption | omega | trivial | decide +kernel), (by first | assumption | omega | trivial | decide +kernel), (by first | assumption | omega | trivial | decide +kernel), (by first | assumption | omega | trivial | decide +kernel), (by first | assumption | omega | trivial | decide +kernel), (by rw [hsN_l9, hsN_r9]; rw [hve] at ht; exact ht), (hve.trans (by decide +kernel))⟩)) dX9_spread_114
                ·
                  have d58 : ((f : Nat) : Int) < (256 : Int) := my_nge c58 (nI_toInt (by omega)) (by decide +kernel)
                  refine lv_aload_n hx hb dX9_spread_61 rfl (lv_at hl 3 rfl) ?_
                  refine lv_iconst (v := 0) hx hb dX9_spread_62 (by decide +kernel) ?_
                  refine lv_iload hx hb dX9_spread_63 (lv_at hl 0 rfl) ?_
                  refine lv_iload hx hb dX9_spread_65 (lv_at hl 0 rfl) ?_
                  refine lv_iload hx hb dX9_spread_67 (lv_at hl 2 rfl) ?_
                  refine lv_iadd hx hb dX9_spread_69 ?_
                  refine my_eqi (y := nI (f + 64)) (my_addN f 64) ?_
                  refine lv_iconst (v := 1) hx hb dX9_spread_70 (by decide +kernel) ?_
                  refine lv_isub hx hb dX9_spread_71 ?_
                  refine my_eqi (y := nI ((f + 64) - 1)) (my_subN (a := f + 64) (b := 1) (by omega)) ?_
                  refine my_gpI (my_pV (As := [.int 0, .int (nI f), .int (nI ((f + 64) - 1))]) (rest := []) (ci := 9) ⟨hx, hb, hml, hown, hts⟩ (cwV 3 hts gX9_spread_X9_within rfl rfl rfl (by decide +kernel) ⟨Nat.le_of_ble_eq_true rfl, Nat.le_of_ble_eq_true rfl⟩) hN hK hP [0, 2] rfl 0 rfl rfl rfl rfl hl.1 rfl (Nat.le_of_ble_eq_true rfl) dX9_spread_72 ⟨Nat.le_of_ble_eq_true rfl, Nat.le_of_ble_eq_true rfl⟩  (kw_X9_within l D cI cJ cK m0 a_row a_tape a_number a_read a_readBits a_stands a_parted a_bitsWere a_stood a_chosen a_bestChosen a_often a_sorted a_risen a_risenWays (0 : Int32) m0_told_53 m_taped m_at m_to m_many m_readMany m_fewest m_size mf_20 f ((f + 64) - 1) (cnF mn a_1 b_2) (by first | assumption | omega | decide +kernel) (by first | assumption | omega | decide +kernel) (by first | assumption | omega | decide +kernel) (by first | assumption | omega | decide +kernel) (by first | assumption | omega | decide +kernel) (by first | assumption | omega | decide +kernel) (by first | assumption | omega | decide +kernel) (by first | assumption | omega | decide +kernel) (by first | assumption | omega | decide +kernel) (hcn0) (fun v => cnF_64 (by omega)))) (fun r hp => ?_)
                  obtain ⟨t_21, rfl, hwt, hq_22⟩ := hp
                  have hs6 := cnF_sum hR_mn (a := a_1) (b := b_2) (by omega); have hm6 := sm_mono (cnF mn a_1 b_2) (show f + 64 - 1 + 1 ≤ 256 by omega); have hb2 := hbk (by omega)
                  rw [show m0_told_53 * 64 = f from htd, show (m0_told_53 + 1) * 64 = f + 64 - 1 + 1 from (by omega)] at hb2
                  refine lv_istore (lv' := [(7, .int (nI t_21)), (6, .int (nI f)), (5, .int (nI t)), (4, .int 64), (0, .ref m0), (1, .int (nI a_1)), (2, .int (nI b_2)), (3, .int 2)]) hx hb dX9_spread_75 hl (by decide) rfl (fun ls hl => ?_)
                  refine lv_iload hx hb dX9_spread_77 (lv_at hl 2 rfl) ?_
                  refine lv_iload hx hb dX9_spread_79 (lv_at hl 0 rfl) ?_
                  refine lv_if_le (tgt := 88) hx hb dX9_spread_81 (by decide) (fun c81 => ?_) (fun c81 => ?_)
                  ·
                    have d81 : ((t_21 : Nat) : Int) ≤ (0 : Int) := my_le c81 (nI_toInt (by omega)) (by decide +kernel)
                    refine lv_iconst (v := 0) hx hb dX9_spread_88 (by decide +kernel) ?_
                    refine my_gpI (my_pS (As := [.int 0]) (rest := [.int (nI t)]) ⟨hx, hb, hml, hown, hts⟩ (va_cwS 1 hts gX9_spread_X9_flag rfl rfl rfl (by decide +kernel) ⟨Nat.le_of_ble_eq_true rfl, Nat.le_of_ble_eq_true rfl⟩) hN hK hP [] rfl rfl hl.1 rfl (Nat.le_of_ble_eq_true rfl) dX9_spread_89 ⟨Nat.le_of_ble_eq_true rfl, Nat.le_of_ble_eq_true rfl⟩  (k0_X9_flag l D cI cJ cK )) (fun r hp => ?_)
                    obtain rfl := hp
                    refine lv_iadd hx hb dX9_spread_92 ?_
                    refine my_eqi (y := nI t) (my_addN t 0) ?_
                    refine lv_istore (lv' := [(5, .int (nI t)), (7, .int (nI t_21)), (6, .int (nI f)), (4, .int 64), (0, .ref m0), (1, .int (nI a_1)), (2, .int (nI b_2)), (3, .int 2)]) hx hb dX9_spread_93 hl (by decide) rfl (fun ls hl => ?_)
                    refine lv_aload_n hx hb dX9_spread_95 rfl (lv_at hl 4 rfl) ?_
                    refine lv_iload hx hb dX9_spread_96 (lv_at hl 1 rfl) ?_
                    refine lv_i2l (v := lN t_21) hx hb dX9_spread_98 (nI_l (by omega)) ?_
                    refine my_goVS (wc := (wl_k_X9_enters cI cJ cK m0 a_row a_tape a_number a_read a_readBits a_stands a_parted a_bitsWere a_stood a_chosen a_bestChosen a_often a_sorted a_risen a_risenWays 0 (nI m0_told_53) (nI m_taped) (nI m_at) (nI m_to) (nI m_many) (nI m_readMany) m_fewest (nI m_size) a_row_53)) hP hD hS hA [0, 3] rfl [some 0, none, none, some 1] (by decide +kernel) (my_cV (As := [.long (lN t_21)]) (rest := []) (ci := 9) (wc := (wl_k_X9_enters cI cJ cK m0 a_row a_tape a_number a_read a_readBits a_stands a_parted a_bitsWere a_stood a_chosen a_bestChosen a_often a_sorted a_risen a_risenWays 0 (nI m0_told_53) (nI m_taped) (nI m_at) (nI m_to) (nI m_many) (nI m_readMany) m_fewest (nI m_size) a_row_53)) ⟨hx, hb, hml, hown, hts⟩ (cwV 1 hts gX9_spread_X9_enters rfl rfl rfl (by decide +kernel) ⟨Nat.le_of_ble_eq_true rfl, Nat.le_of_ble_eq_true rfl⟩) hN hK hP hD [0, 3] rfl (by decide) rfl 0 rfl rfl rfl rfl hl.1 rfl (Nat.le_of_ble_eq_true rfl) dX9_spread_99 ⟨Nat.le_of_ble_eq_true rfl, Nat.le_of_ble_eq_true rfl⟩  ((k_X9_enters l D cI cJ cK m0 a_row a_tape a_number a_read a_readBits a_stands a_parted a_bitsWere a_stood a_chosen a_bestChosen a_often a_sorted a_risen a_risenWays (0 : Int32) m0_told_53 m_taped m_at m_to m_many m_readMany m_fewest m_size a_row_53 (lN t_21) (by first | assumption | omega | decide +kernel) (by first | assumption | omega | decide +kernel) (by first | assumption | omega | decide +kernel) (by first | assumption | omega | decide +kernel) (by first | assumption | omega | decide +kernel) (by first | assumption | omega | decide +kernel) (by first | assumption | omega | decide +kernel) (by first | assumption | omega | decide +kernel)) _)) (fun u H locs hp hPD hS => ?_)
                    obtain ⟨m_told_23, mr_24, rfl, hhz_m_told_25, ht_26⟩ := hp
                    obtain ⟨hP, hD⟩ := hPD rfl
                    have hP : va_P D vwCl (wl_k_X9_spread cI cJ cK m0 a_row a_tape a_number a_read a_readBits a_stands a_parted a_bitsWere a_stood a_chosen a_bestChosen a_often a_sorted a_risen a_risenWays 0 (nI m_told_23) (nI m_taped) (nI m_at) (nI m_to) (nI m_many) (nI m_readMany) m_fewest (nI m_size) mn mf_20 mr_24) H := hP
                    have hD : va_D A (wl_k_X9_spread cI cJ cK m0 a_row a_tape a_number a_read a_readBits a_stands a_parted a_bitsWere a_stood a_chosen a_bestChosen a_often a_sorted a_risen a_risenWays 0 (nI m_told_23) (nI m_taped) (nI m_at) (nI m_to) (nI m_many) (nI m_readMany) m_fewest (nI m_size) mn mf_20 mr_24) := hD
                    refine lv_iload hx hb dX9_spread_102 (lv_at hl 2 rfl) ?_
                    refine lv_iload hx hb dX9_spread_104 (lv_at hl 3 rfl) ?_
                    refine lv_iadd hx hb dX9_spread_106 ?_
                    refine my_eqi (y := nI (f + 64)) (my_addN f 64) ?_
                    refine lv_istore (lv' := [(6, .int (nI (f + 64))), (5, .int (nI t)), (7, .int (nI t_21)), (4, .int 64), (0, .ref m0), (1, .int (nI a_1)), (2, .int (nI b_2)), (3, .int 2)]) hx hb dX9_spread_107 hl (by decide) rfl (fun ls hl => ?_)
                    refine lv_goto (tgt := 53) hx hb dX9_spread_109 (by decide) ?_
                    exact ih53  (f + 64) t m_told_23 mr_24 (by omega) (by first | assumption | omega | decide +kernel) (by first | assumption | omega | decide +kernel) (by first | assumption | omega | decide +kernel) (by first | assumption | omega | decide +kernel) (by rw [show m_told_23 = m0_told_53 + 1 from (by omega)]; first | exact ct_yes ht (decide_eq_true (by omega)) | exact ct_no ht (decide_eq_false (by omega))) (by first | assumption | omega | decide +kernel) _ _ ls hP hD hS (lv_sub hl [0, 1, 3, 4, 5, 6, 7] rfl)
                  ·
                    have d81 : ((t_21 : Nat) : Int) > (0 : Int) := my_nle c81 (nI_toInt (by omega)) (by decide +kernel)
                    refine lv_iconst (v := 1) hx hb dX9_spread_84 (by decide +kernel) ?_
                    refine lv_goto (tgt := 89) hx hb dX9_spread_85 (by decide) ?_
                    refine my_gpI (my_pS (As := [.int 1]) (rest := [.int (nI t)]) ⟨hx, hb, hml, hown, hts⟩ (va_cwS 1 hts gX9_spread_X9_flag rfl rfl rfl (by decide +kernel) ⟨Nat.le_of_ble_eq_true rfl, Nat.le_of_ble_eq_true rfl⟩) hN hK hP [] rfl rfl hl.1 rfl (Nat.le_of_ble_eq_true rfl) dX9_spread_89 ⟨Nat.le_of_ble_eq_true rfl, Nat.le_of_ble_eq_true rfl⟩  (k1_X9_flag l D cI cJ cK )) (fun r hp => ?_)
                    obtain rfl := hp
                    refine lv_iadd hx hb dX9_spread_92 ?_
                    refine my_eqi (y := nI (t + 1)) (my_addN t 1) ?_
                    refine lv_istore (lv' := [(5, .int (nI (t + 1))), (7, .int (nI t_21)), (6, .int (nI f)), (4, .int 64), (0, .ref m0), (1, .int (nI a_1)), (2, .int (nI b_2)), (3, .int 2)]) hx hb dX9_spread_93 hl (by decide) rfl (fun ls hl => ?_)
                    refine lv_aload_n hx hb dX9_spread_95 rfl (lv_at hl 4 rfl) ?_
                    refine lv_iload hx hb dX9_spread_96 (lv_at hl 1 rfl) ?_
                    refine lv_i2l (v := lN t_21) hx hb dX9_spread_98 (nI_l (by omega)) ?_
                    refine my_goVS (wc := (wl_k_X9_enters cI cJ cK m0 a_row a_tape a_number a_read a_readBits a_stands a_parted a_bitsWere a_stood a_chosen a_bestChosen a_often a_sorted a_risen a_risenWays 0 (nI m0_told_53) (nI m_taped) (nI m_at) (nI m_to) (nI m_many) (nI m_readMany) m_fewest (nI m_size) a_row_53)) hP hD hS hA [0, 3] rfl [some 0, none, none, some 1] (by decide +kernel) (my_cV (As := [.long (lN t_21)]) (rest := []) (ci := 9) (wc := (wl_k_X9_enters cI cJ cK m0 a_row a_tape a_number a_read a_readBits a_stands a_parted a_bitsWere a_stood a_chosen a_bestChosen a_often a_sorted a_risen a_risenWays 0 (nI m0_told_53) (nI m_taped) (nI m_at) (nI m_to) (nI m_many) (nI m_readMany) m_fewest (nI m_size) a_row_53)) ⟨hx, hb, hml, hown, hts⟩ (cwV 1 hts gX9_spread_X9_enters rfl rfl rfl (by decide +kernel) ⟨Nat.le_of_ble_eq_true rfl, Nat.le_of_ble_eq_true rfl⟩) hN hK hP hD [0, 3] rfl (by decide) rfl 0 rfl rfl rfl rfl hl.1 rfl (Nat.le_of_ble_eq_true rfl) dX9_spread_99 ⟨Nat.le_of_ble_eq_true rfl, Nat.le_of_ble_eq_true rfl⟩  ((k_X9_enters l D cI cJ cK m0 a_row a_tape a_number a_read a_readBits a_stands a_parted a_bitsWere a_stood a_chosen a_bestChosen a_often a_sorted a_risen a_risenWays (0 : Int32) m0_told_53 m_taped m_at m_to m_many m_readMany m_fewest m_size a_row_53 (lN t_21) (by first | assumption | omega | decide +kernel) (by first | assumption | omega | decide +kernel) (by first | assumption | omega | decide +kernel) (by first | assumption | omega | decide +kernel) (by first | assumption | omega | decide +kernel) (by first | assumption | omega | decide +kernel) (by first | assumption | omega | decide +kernel) (by first | assumption | omega | decide +kernel)) _)) (fun u H locs hp hPD hS => ?_)
                    obtain ⟨m_told_27, mr_28, rfl, hhz_m_told_29, ht_30⟩ := hp
                    obtain ⟨hP, hD⟩ := hPD rfl
                    have hP : va_P D vwCl (wl_k_X9_spread cI cJ cK m0 a_row a_tape a_number a_read a_readBits a_stands a_parted a_bitsWere a_stood a_chosen a_bestChosen a_often a_sorted a_risen a_risenWays 0 (nI m_told_27) (nI m_taped) (nI m_at) (nI m_to) (nI m_many) (nI m_readMany) m_fewest (nI m_size) mn mf_20 mr_28) H := hP
                    have hD : va_D A (wl_k_X9_spread cI cJ cK m0 a_row a_tape a_number a_read a_readBits a_stands a_parted a_bitsWere a_stood a_chosen a_bestChosen a_often a_sorted a_risen a_risenWays 0 (nI m_told_27) (nI m_taped) (nI m_at) (nI m_to) (nI m_many) (nI m_readMany) m_fewest (nI m_size) mn mf_20 mr_28) := hD
                    refine lv_iload hx hb dX9_spread_102 (lv_at hl 2 rfl) ?_
                    refine lv_iload hx hb dX9_spread_104 (lv_at hl 3 rfl) ?_
                    refine lv_iadd hx hb dX9_spread_106 ?_
                    refine my_eqi (y := nI (f + 64)) (my_addN f 64) ?_
                    refine lv_istore (lv' := [(6, .int (nI (f + 64))), (5, .int (nI (t + 1))), (7, .int (nI t_21)), (4, .int 64), (0, .ref m0), (1, .int (nI a_1)), (2, .int (nI b_2)), (3, .int 2)]) hx hb dX9_spread_107 hl (by decide) rfl (fun ls hl => ?_)
                    refine lv_goto (tgt := 53) hx hb dX9_spread_109 (by decide) ?_
                    exact ih53  (f + 64) (t + 1) m_told_27 mr_28 (by omega) (by first | assumption | omega | decide +kernel) (by first | assumption | omega | decide +kernel) (by first | assumption | omega | decide +kernel) (by first | assumption | omega | decide +kernel) (by rw [show m_told_27 = m0_told_53 + 1 from (by omega)]; first | exact ct_yes ht (decide_eq_true (by omega)) | exact ct_no ht (decide_eq_false (by omega))) (by first | assumption | omega | decide +kernel) _ _ ls hP hD hS (lv_sub hl [0, 1, 3, 4, 5, 6, 7] rfl)
            exact loop53 ((256 - 0) + 1) 0 0 0 mr (Nat.lt_succ_self _) (by first | assumption | omega | decide +kernel) (by first | assumption | omega | decide +kernel) (by first | assumption | omega | decide +kernel) (by first | assumption | omega | decide +kernel) (rfl) (by first | assumption | omega | decide +kernel) _ _ ls hP hD hS (lv_sub hl [0, 1, 2, 3, 4, 5, 6] rfl)
          ·
            refine lv_aload_n hx hb dX9_spread_28 rfl (lv_at hl 0 rfl) ?_
            refine lv_iconst (v := 0) hx hb dX9_spread_29 (by decide +kernel) ?_
            refine lv_iload_n hx hb dX9_spread_30 rfl (lv_at hl 1 rfl) ?_
            refine lv_iload_n hx hb dX9_spread_31 rfl (lv_at hl 2 rfl) ?_
            refine my_goVS (wc := (wl_k0_X9_counts cI cJ cK m0 a_row a_tape a_number a_read a_readBits a_stands a_parted a_bitsWere a_stood a_chosen a_bestChosen a_often a_sorted a_risen a_risenWays 0 (nI m_told) (nI m_taped) (nI m_at) (nI m_to) (nI m_many) (nI m_readMany) m_fewest (nI m_size) mn mf)) hP hD hS hA [0, 1, 2] rfl [some 0, some 1, some 2] (by decide +kernel) (my_cV (As := [.int 0, .int (nI a_1), .int (nI b_2)]) (rest := []) (ci := 9) (wc := (wl_k0_X9_counts cI cJ cK m0 a_row a_tape a_number a_read a_readBits a_stands a_parted a_bitsWere a_stood a_chosen a_bestChosen a_often a_sorted a_risen a_risenWays 0 (nI m_told) (nI m_taped) (nI m_at) (nI m_to) (nI m_many) (nI m_readMany) m_fewest (nI m_size) mn mf)) ⟨hx, hb, hml, hown, hts⟩ (cwV 3 hts gX9_spread_X9_counts rfl rfl rfl (by decide +kernel) ⟨Nat.le_of_ble_eq_true rfl, Nat.le_of_ble_eq_true rfl⟩) hN hK hP hD [0, 1, 2] rfl (by decide) rfl 0 rfl rfl rfl rfl hl.1 rfl (Nat.le_of_ble_eq_true rfl) dX9_spread_32 ⟨Nat.le_of_ble_eq_true rfl, Nat.le_of_ble_eq_true rfl⟩  ((k0_X9_counts l D cI cJ cK m0 a_row a_tape a_number a_read a_readBits a_stands a_parted a_bitsWere a_stood a_chosen a_bestChosen a_often a_sorted a_risen a_risenWays (0 : Int32) m_told m_taped m_at m_to m_many m_readMany m_fewest m_size mn mf a_1 b_2 (by first | assumption | omega | decide +kernel) (by first | assumption | omega | decide +kernel) (by first | assumption | omega | decide +kernel) (by first | assumption | omega | decide +kernel) (by first | assumption | omega | decide +kernel) (by first | assumption | omega | decide +kernel) (by first | assumption | omega | decide +kernel) hR_mn (by first | assumption | omega | decide +kernel) (by first | assumption | omega | decide +kernel)) _)) (fun u H locs hp hPD hS => ?_)
            obtain ⟨mf_31, rfl, hcn0, hco0⟩ := hp
            obtain ⟨hP, hD⟩ := hPD rfl
            have hP : va_P D vwCl (wl_k_X9_spread cI cJ cK m0 a_row a_tape a_number a_read a_readBits a_stands a_parted a_bitsWere a_stood a_chosen a_bestChosen a_often a_sorted a_risen a_risenWays 0 (nI m_told) (nI m_taped) (nI m_at) (nI m_to) (nI m_many) (nI m_readMany) m_fewest (nI m_size) mn mf_31 mr) H := hP
            have hD : va_D A (wl_k_X9_spread cI cJ cK m0 a_row a_tape a_number a_read a_readBits a_stands a_parted a_bitsWere a_stood a_chosen a_bestChosen a_often a_sorted a_risen a_risenWays 0 (nI m_told) (nI m_taped) (nI m_at) (nI m_to) (nI m_many) (nI m_readMany) m_fewest (nI m_size) mn mf_31 mr) := hD
            refine lv_sipush (v := 256) hx hb dX9_spread_35 (by decide +kernel) ?_
            refine lv_iload_n hx hb dX9_spread_38 rfl (lv_at hl 3 rfl) ?_
            refine lv_ishr hx hb dX9_spread_39 ?_
            refine my_eqi (y := 32) (by decide +kernel) ?_
            refine lv_istore (lv' := [(4, .int 32), (0, .ref m0), (1, .int (nI a_1)), (2, .int (nI b_2)), (3, .int 3)]) hx hb dX9_spread_40 hl (by decide) rfl (fun ls hl => ?_)
            refine lv_iconst (v := 0) hx hb dX9_spread_42 (by decide +kernel) ?_
            refine lv_istore (lv' := [(5, .int 0), (4, .int 32), (0, .ref m0), (1, .int (nI a_1)), (2, .int (nI b_2)), (3, .int 3)]) hx hb dX9_spread_43 hl (by decide) rfl (fun ls hl => ?_)
            refine lv_aload_n hx hb dX9_spread_45 rfl (lv_at hl 2 rfl) ?_
            refine lv_iconst (v := 0) hx hb dX9_spread_46 (by decide +kernel) ?_
            refine va_put (ci := 9) (v := .int 0) (ty := (.int)) (C := RX9) (T := TX9) (N := 24) hx hb hts hi9 tyX9 tyX9_ok nmX9 hown hK hP hD hS 0 rfl rfl 1 (by decide) fl11 (fun _ h9 => h9) rfl (by decide +kernel) rfl rfl (Nat.le_of_ble_eq_true rfl) dX9_spread_47 (fun H locs hP hD hS => ?_)
            have hP : va_P D vwCl (wl_k_X9_spread cI cJ cK m0 a_row a_tape a_number a_read a_readBits a_stands a_parted a_bitsWere a_stood a_chosen a_bestChosen a_often a_sorted a_risen a_risenWays 0 0 (nI m_taped) (nI m_at) (nI m_to) (nI m_many) (nI m_readMany) m_fewest (nI m_size) mn mf_31 mr) H := hP
            have hD : va_D A (wl_k_X9_spread cI cJ cK m0 a_row a_tape a_number a_read a_readBits a_stands a_parted a_bitsWere a_stood a_chosen a_bestChosen a_often a_sorted a_risen a_risenWays 0 0 (nI m_taped) (nI m_at) (nI m_to) (nI m_many) (nI m_readMany) m_fewest (nI m_size) mn mf_31 mr) := hD
            refine lv_iconst (v := 0) hx hb dX9_spread_50 (by decide +kernel) ?_
            refine lv_istore (lv' := [(6, .int 0), (5, .int 0), (4, .int 32), (0, .ref m0), (1, .int (nI a_1)), (2, .int (nI b_2)), (3, .int 3)]) hx hb dX9_spread_51 hl (by decide) rfl (fun ls hl => ?_)
            have loop53 : ∀ (n9 : Nat) (f : Nat) (t : Nat) (m0_told_53 : Nat) (a_row_53 : Nat → Int64), 256 - f < n9 → (t ≤ 16) → (f ≤ 256) → (m0_told_53 * 32 = f) → (t ≤ m0_told_53) → (t = fb_ct (spP mn 3 a_1 b_2) m0_told_53) → (m0_told_53 ≤ 64) → ∀ (H : Heap) (locs : List Loc) (ls : Array Slot), va_P D vwCl (wl_k_X9_spread cI cJ cK m0 a_row a_tape a_number a_read a_readBits a_stands a_parted a_bitsWere a_stood a_chosen a_bestChosen a_often a_sorted a_risen a_risenWays 0 (nI m0_told_53) (nI m_taped) (nI m_at) (nI m_to) (nI m_many) (nI m_readMany) m_fewest (nI m_size) mn mf_31 a_row_53) H → va_D A (wl_k_X9_spread cI cJ cK m0 a_row a_tape a_number a_read a_readBits a_stands a_parted a_bitsWere a_stood a_chosen a_bestChosen a_often a_sorted a_risen a_risenWays 0 (nI m0_told_53) (nI m_taped) (nI m_at) (nI m_to) (nI m_many) (nI m_readMany) m_fewest (nI m_size) mn mf_31 a_row_53) → va_S A s.heap H locs → lv_has ls 8 [(6, .int (nI f)), (5, .int (nI t)), (4, .int 32), (0, .ref m0), (1, .int (nI a_1)), (2, .int (nI b_2)), (3, .int 3)] → W p l e ({ frames := 2, cells := 0, slots := 0, locals := 120 } : Room) s m [.ref m0, .int (nI a_1), .int (nI b_2), .int (3 : Int32)].toArray below meth c H locs 0 0 (MQ below (va_Qi (fun (r : Int32) (u : va_W) => (∃ (m_thrown' : Int32), u = (wl_k_X9_spread cI cJ cK m0 a_row a_tape a_number a_read a_readBits a_stands a_parted a_bitsWere a_stood a_chosen a_bestChosen a_often a_sorted a_risen a_risenWays m_thrown' (nI m_told) (nI m_taped) (nI m_at) (nI m_to) (nI m_many) (nI m_readMany) m_fewest (nI m_size) mn mf mr) ∧ r = (-1) ∧ ((nI a_1).toInt < 0 ∨ (nI b_2).toInt < (nI a_1).toInt ∨ m_many < (nI b_2).toInt ∨ (3 : Int32).toInt < 1 ∨ 4 < (3 : Int32).toInt)) ∨ (∃ (t' : Nat) (m_thrown' : Int32) (m_told' : Nat) (mf' : Nat → Int32) (mr' : Nat → Int64), u = (wl_k_X9_spread cI cJ cK m0 a_row a_tape a_number a_read a_readBits a_stands a_parted a_bitsWere a_stood a_chosen a_bestChosen a_often a_sorted a_risen a_risenWays m_thrown' (nI m_told') (nI m_taped) (nI m_at) (nI m_to) (nI m_many) (nI m_readMany) m_fewest (nI m_size) mn mf' mr') ∧ r = nI t' ∧ m_told' ≤ 64 ∧ 0 ≤ (nI a_1).toInt ∧ (nI a_1).toInt ≤ (nI b_2).toInt ∧ (nI b_2).toInt ≤ m_many ∧ 1 ≤ (3 : Int32).toInt ∧ (3 : Int32).toInt ≤ 4 ∧ t' = fb_ct (spP mn (3 : Int32).toInt.toNat (nI a_1).toInt.toNat (nI b_2).toInt.toNat) (2 ^ (3 : Int32).toInt.toNat) ∧ m_told' = 2 ^ (3 : Int32).toInt.toNat)) (my_B D (tyIJ cI cJ cK) A) A) [.ref m0, .int (nI a_1), .int (nI b_2), .int (3 : Int32)].toArray s 0 0 A) (F0 m 53 ls []) := by
              intro n9
              induction n9 with
              | zero =>
                intro f t m0_told_53 a_row_53 hn9
                exact absurd hn9 (Nat.not_lt_zero _)
              | succ n9 ih53 =>
                intro f t m0_told_53 a_row_53 hn9 hk_t hk_f htd htt ht hz_m0_told_53 H locs ls hP hD hS hl
                have hbk := fun h9 => cnl_blk hR_mn (p := 3) (h := m0_told_53) (a := a_1) (w := 32) (by decide) h9 b_2
                refine lv_iload hx hb dX9_spread_53 (lv_at hl 0 rfl) ?_
                refine lv_sipush (v := 256) hx hb dX9_spread_55 (by decide +kernel) ?_
                refine lv_icmp_ge (tgt := 112) hx hb dX9_spread_58 (by decide) (fun c58 => ?_) (fun c58 => ?_)
                ·
                  have d58 : ((f : Nat) : Int) ≥ (256 : Int) := my_ge c58 (nI_toInt (by omega)) (by decide +kernel)
                  have hve : m0_told_53 = 8 := by omega
                  refine lv_iload hx hb dX9_spread_112 (lv_at hl 1 rfl) ?_
                  have hsI_l9 : (nI a_1).toInt = ((a_1 : Nat) : Int) := nI_toInt (by omega)
                  have hsN_l9 : (nI a_1).toInt.toNat = a_1 := nIt (by omega)
                  have hsI_r9 : (nI b_2).toInt = ((b_2 : Nat) : Int) := nI_toInt (by omega)
                  have hsN_r9 : (nI b_2).toInt.toNat = b_2 := nIt (by omega)
                  exact my_retI hx hb hr hlocks hK hS (wl_k_X9_spread cI cJ cK m0 a_row a_tape a_number a_read a_readBits a_stands a_parted a_bitsWere a_stood a_chosen a_bestChosen a_often a_sorted a_risen a_risenWays 0 (nI m0_told_53) (nI m_taped) (nI m_at) (nI m_to) (nI m_many) (nI m_readMany) m_fewest (nI m_size) mn mf_31 a_row_53) hP hD (Or.inr (⟨t, 0, m0_told_53, mf_31, a_row_53, rfl, rfl, (by first | assumption | omega | trivial | decide +kernel), (by first | assumption | omega | trivial | decide +kernel), (by first | assumption | omega | trivial | decide +kernel), (by first | assumption | omega | trivial | decide +kernel), (by first | assumption | omega | trivial | decide +kernel), (by first | assumption | omega | trivial | decide +kernel), (by rw [hsN_l9, hsN_r9]; rw [hve] at ht; exact ht), (hve.trans (by decide +kernel))⟩)) dX9_spread_114
                ·
                  have d58 : ((f : Nat) : Int) < (256 : Int) := my_nge c58 (nI_toInt (by omega)) (by decide +kernel)
                  refine lv_aload_n hx hb dX9_spread_61 rfl (lv_at hl 3 rfl) ?_
                  refine lv_iconst (v := 0) hx hb dX9_spread_62 (by decide +kernel) ?_
                  refine lv_iload hx hb dX9_spread_63 (lv_at hl 0 rfl) ?_
                  refine lv_iload hx hb dX9_spread_65 (lv_at hl 0 rfl) ?_
                  refine lv_iload hx hb dX9_spread_67 (lv_at hl 2 rfl) ?_
                  refine lv_iadd hx hb dX9_spread_69 ?_
                  refine my_eqi (y := nI (f + 32)) (my_addN f 32) ?_
                  refine lv_iconst (v := 1) hx hb dX9_spread_70 (by decide +kernel) ?_
                  refine lv_isub hx hb dX9_spread_71 ?_
                  refine my_eqi (y := nI ((f + 32) - 1)) (my_subN (a := f + 32) (b := 1) (by omega)) ?_
                  refine my_gpI (my_pV (As := [.int 0, .int (nI f), .int (nI ((f + 32) - 1))]) (rest := []) (ci := 9) ⟨hx, hb, hml, hown, hts⟩ (cwV 3 hts gX9_spread_X9_within rfl rfl rfl (by decide +kernel) ⟨Nat.le_of_ble_eq_true rfl, Nat.le_of_ble_eq_true rfl⟩) hN hK hP [0, 2] rfl 0 rfl rfl rfl rfl hl.1 rfl (Nat.le_of_ble_eq_true rfl) dX9_spread_72 ⟨Nat.le_of_ble_eq_true rfl, Nat.le_of_ble_eq_true rfl⟩  (kw_X9_within l D cI cJ cK m0 a_row a_tape a_number a_read a_readBits a_stands a_parted a_bitsWere a_stood a_chosen a_bestChosen a_often a_sorted a_risen a_risenWays (0 : Int32) m0_told_53 m_taped m_at m_to m_many m_readMany m_fewest m_size mf_31 f ((f + 32) - 1) (cnF mn a_1 b_2) (by first | assumption | omega | decide +kernel) (by first | assumption | omega | decide +kernel) (by first | assumption | omega | decide +kernel) (by first | assumption | omega | decide +kernel) (by first | assumption | omega | decide +kernel) (by first | assumption | omega | decide +kernel) (by first | assumption | omega | decide +kernel) (by first | assumption | omega | decide +kernel) (by first | assumption | omega | decide +kernel) (hcn0) (fun v => cnF_64 (by omega)))) (fun r hp => ?_)
                  obtain ⟨t_32, rfl, hwt, hq_33⟩ := hp
                  have hs6 := cnF_sum hR_mn (a := a_1) (b := b_2) (by omega); have hm6 := sm_mono (cnF mn a_1 b_2) (show f + 32 - 1 + 1 ≤ 256 by omega); have hb2 := hbk (by omega)
                  rw [show m0_told_53 * 32 = f from htd, show (m0_told_53 + 1) * 32 = f + 32 - 1 + 1 from (by omega)] at hb2
                  refine lv_istore (lv' := [(7, .int (nI t_32)), (6, .int (nI f)), (5, .int (nI t)), (4, .int 32), (0, .ref m0), (1, .int (nI a_1)), (2, .int (nI b_2)), (3, .int 3)]) hx hb dX9_spread_75 hl (by decide) rfl (fun ls hl => ?_)
                  refine lv_iload hx hb dX9_spread_77 (lv_at hl 2 rfl) ?_
                  refine lv_iload hx hb dX9_spread_79 (lv_at hl 0 rfl) ?_
                  refine lv_if_le (tgt := 88) hx hb dX9_spread_81 (by decide) (fun c81 => ?_) (fun c81 => ?_)
                  ·
                    have d81 : ((t_32 : Nat) : Int) ≤ (0 : Int) := my_le c81 (nI_toInt (by omega)) (by decide +kernel)
                    refine lv_iconst (v := 0) hx hb dX9_spread_88 (by decide +kernel) ?_
                    refine my_gpI (my_pS (As := [.int 0]) (rest := [.int (nI t)]) ⟨hx, hb, hml, hown, hts⟩ (va_cwS 1 hts gX9_spread_X9_flag rfl rfl rfl (by decide +kernel) ⟨Nat.le_of_ble_eq_true rfl, Nat.le_of_ble_eq_true rfl⟩) hN hK hP [] rfl rfl hl.1 rfl (Nat.le_of_ble_eq_true rfl) dX9_spread_89 ⟨Nat.le_of_ble_eq_true rfl, Nat.le_of_ble_eq_true rfl⟩  (k0_X9_flag l D cI cJ cK )) (fun r hp => ?_)
                    obtain rfl := hp
                    refine lv_iadd hx hb dX9_spread_92 ?_
                    refine my_eqi (y := nI t) (my_addN t 0) ?_
                    refine lv_istore (lv' := [(5, .int (nI t)), (7, .int (nI t_32)), (6, .int (nI f)), (4, .int 32), (0, .ref m0), (1, .int (nI a_1)), (2, .int (nI b_2)), (3, .int 3)]) hx hb dX9_spread_93 hl (by decide) rfl (fun ls hl => ?_)
                    refine lv_aload_n hx hb dX9_spread_95 rfl (lv_at hl 4 rfl) ?_
                    refine lv_iload hx hb dX9_spread_96 (lv_at hl 1 rfl) ?_
                    refine lv_i2l (v := lN t_32) hx hb dX9_spread_98 (nI_l (by omega)) ?_
                    refine my_goVS (wc := (wl_k_X9_enters cI cJ cK m0 a_row a_tape a_number a_read a_readBits a_stands a_parted a_bitsWere a_stood a_chosen a_bestChosen a_often a_sorted a_risen a_risenWays 0 (nI m0_told_53) (nI m_taped) (nI m_at) (nI m_to) (nI m_many) (nI m_readMany) m_fewest (nI m_size) a_row_53)) hP hD hS hA [0, 3] rfl [some 0, none, none, some 1] (by decide +kernel) (my_cV (As := [.long (lN t_32)]) (rest := []) (ci := 9) (wc := (wl_k_X9_enters cI cJ cK m0 a_row a_tape a_number a_read a_readBits a_stands a_parted a_bitsWere a_stood a_chosen a_bestChosen a_often a_sorted a_risen a_risenWays 0 (nI m0_told_53) (nI m_taped) (nI m_at) (nI m_to) (nI m_many) (nI m_readMany) m_fewest (nI m_size) a_row_53)) ⟨hx, hb, hml, hown, hts⟩ (cwV 1 hts gX9_spread_X9_enters rfl rfl rfl (by decide +kernel) ⟨Nat.le_of_ble_eq_true rfl, Nat.le_of_ble_eq_true rfl⟩) hN hK hP hD [0, 3] rfl (by decide) rfl 0 rfl rfl rfl rfl hl.1 rfl (Nat.le_of_ble_eq_true rfl) dX9_spread_99 ⟨Nat.le_of_ble_eq_true rfl, Nat.le_of_ble_eq_true rfl⟩  ((k_X9_enters l D cI cJ cK m0 a_row a_tape a_number a_read a_readBits a_stands a_parted a_bitsWere a_stood a_chosen a_bestChosen a_often a_sorted a_risen a_risenWays (0 : Int32) m0_told_53 m_taped m_at m_to m_many m_readMany m_fewest m_size a_row_53 (lN t_32) (by first | assumption | omega | decide +kernel) (by first | assumption | omega | decide +kernel) (by first | assumption | omega | decide +kernel) (by first | assumption | omega | decide +kernel) (by first | assumption | omega | decide +kernel) (by first | assumption | omega | decide +kernel) (by first | assumption | omega | decide +kernel) (by first | assumption | omega | decide +kernel)) _)) (fun u H locs hp hPD hS => ?_)
                    obtain ⟨m_told_34, mr_35, rfl, hhz_m_told_36, ht_37⟩ := hp
                    obtain ⟨hP, hD⟩ := hPD rfl
                    have hP : va_P D vwCl (wl_k_X9_spread cI cJ cK m0 a_row a_tape a_number a_read a_readBits a_stands a_parted a_bitsWere a_stood a_chosen a_bestChosen a_often a_sorted a_risen a_risenWays 0 (nI m_told_34) (nI m_taped) (nI m_at) (nI m_to) (nI m_many) (nI m_readMany) m_fewest (nI m_size) mn mf_31 mr_35) H := hP
                    have hD : va_D A (wl_k_X9_spread cI cJ cK m0 a_row a_tape a_number a_read a_readBits a_stands a_parted a_bitsWere a_stood a_chosen a_bestChosen a_often a_sorted a_risen a_risenWays 0 (nI m_told_34) (nI m_taped) (nI m_at) (nI m_to) (nI m_many) (nI m_readMany) m_fewest (nI m_size) mn mf_31 mr_35) := hD
                    refine lv_iload hx hb dX9_spread_102 (lv_at hl 2 rfl) ?_
                    refine lv_iload hx hb dX9_spread_104 (lv_at hl 3 rfl) ?_
                    refine lv_iadd hx hb dX9_spread_106 ?_
                    refine my_eqi (y := nI (f + 32)) (my_addN f 32) ?_
                    refine lv_istore (lv' := [(6, .int (nI (f + 32))), (5, .int (nI t)), (7, .int (nI t_32)), (4, .int 32), (0, .ref m0), (1, .int (nI a_1)), (2, .int (nI b_2)), (3, .int 3)]) hx hb dX9_spread_107 hl (by decide) rfl (fun ls hl => ?_)
                    refine lv_goto (tgt := 53) hx hb dX9_spread_109 (by decide) ?_
                    exact ih53  (f + 32) t m_told_34 mr_35 (by omega) (by first | assumption | omega | decide +kernel) (by first | assumption | omega | decide +kernel) (by first | assumption | omega | decide +kernel) (by first | assumption | omega | decide +kernel) (by rw [show m_told_34 = m0_told_53 + 1 from (by omega)]; first | exact ct_yes ht (decide_eq_true (by omega)) | exact ct_no ht (decide_eq_false (by omega))) (by first | assumption | omega | decide +kernel) _ _ ls hP hD hS (lv_sub hl [0, 1, 3, 4, 5, 6, 7] rfl)
                  ·
                    have d81 : ((t_32 : Nat) : Int) > (0 : Int) := my_nle c81 (nI_toInt (by omega)) (by decide +kernel)
                    refine lv_iconst (v := 1) hx hb dX9_spread_84 (by decide +kernel) ?_
                    refine lv_goto (tgt := 89) hx hb dX9_spread_85 (by decide) ?_
                    refine my_gpI (my_pS (As := [.int 1]) (rest := [.int (nI t)]) ⟨hx, hb, hml, hown, hts⟩ (va_cwS 1 hts gX9_spread_X9_flag rfl rfl rfl (by decide +kernel) ⟨Nat.le_of_ble_eq_true rfl, Nat.le_of_ble_eq_true rfl⟩) hN hK hP [] rfl rfl hl.1 rfl (Nat.le_of_ble_eq_true rfl) dX9_spread_89 ⟨Nat.le_of_ble_eq_true rfl, Nat.le_of_ble_eq_true rfl⟩  (k1_X9_flag l D cI cJ cK )) (fun r hp => ?_)
                    obtain rfl := hp
                    refine lv_iadd hx hb dX9_spread_92 ?_
                    refine my_eqi (y := nI (t + 1)) (my_addN t 1) ?_
                    refine lv_istore (lv' := [(5, .int (nI (t + 1))), (7, .int (nI t_32)), (6, .int (nI f)), (4, .int 32), (0, .ref m0), (1, .int (nI a_1)), (2, .int (nI b_2)), (3, .int 3)]) hx hb dX9_spread_93 hl (by decide) rfl (fun ls hl => ?_)
                    refine lv_aload_n hx hb dX9_spread_95 rfl (lv_at hl 4 rfl) ?_
                    refine lv_iload hx hb dX9_spread_96 (lv_at hl 1 rfl) ?_
                    refine lv_i2l (v := lN t_32) hx hb dX9_spread_98 (nI_l (by omega)) ?_
                    refine my_goVS (wc := (wl_k_X9_enters cI cJ cK m0 a_row a_tape a_number a_read a_readBits a_stands a_parted a_bitsWere a_stood a_chosen a_bestChosen a_often a_sorted a_risen a_risenWays 0 (nI m0_told_53) (nI m_taped) (nI m_at) (nI m_to) (nI m_many) (nI m_readMany) m_fewest (nI m_size) a_row_53)) hP hD hS hA [0, 3] rfl [some 0, none, none, some 1] (by decide +kernel) (my_cV (As := [.long (lN t_32)]) (rest := []) (ci := 9) (wc := (wl_k_X9_enters cI cJ cK m0 a_row a_tape a_number a_read a_readBits a_stands a_parted a_bitsWere a_stood a_chosen a_bestChosen a_often a_sorted a_risen a_risenWays 0 (nI m0_told_53) (nI m_taped) (nI m_at) (nI m_to) (nI m_many) (nI m_readMany) m_fewest (nI m_size) a_row_53)) ⟨hx, hb, hml, hown, hts⟩ (cwV 1 hts gX9_spread_X9_enters rfl rfl rfl (by decide +kernel) ⟨Nat.le_of_ble_eq_true rfl, Nat.le_of_ble_eq_true rfl⟩) hN hK hP hD [0, 3] rfl (by decide) rfl 0 rfl rfl rfl rfl hl.1 rfl (Nat.le_of_ble_eq_true rfl) dX9_spread_99 ⟨Nat.le_of_ble_eq_true rfl, Nat.le_of_ble_eq_true rfl⟩  ((k_X9_enters l D cI cJ cK m0 a_row a_tape a_number a_read a_readBits a_stands a_parted a_bitsWere a_stood a_chosen a_bestChosen a_often a_sorted a_risen a_risenWays (0 : Int32) m0_told_53 m_taped m_at m_to m_many m_readMany m_fewest m_size a_row_53 (lN t_32) (by first | assumption | omega | decide +kernel) (by first | assumption | omega | decide +kernel) (by first | assumption | omega | decide +kernel) (by first | assumption | omega | decide +kernel) (by first | assumption | omega | decide +kernel) (by first | assumption | omega | decide +kernel) (by first | assumption | omega | decide +kernel) (by first | assumption | omega | decide +kernel)) _)) (fun u H locs hp hPD hS => ?_)
                    obtain ⟨m_told_38, mr_39, rfl, hhz_m_told_40, ht_41⟩ := hp
                    obtain ⟨hP, hD⟩ := hPD rfl
                    have hP : va_P D vwCl (wl_k_X9_spread cI cJ cK m0 a_row a_tape a_number a_read a_readBits a_stands a_parted a_bitsWere a_stood a_chosen a_bestChosen a_often a_sorted a_risen a_risenWays 0 (nI m_told_38) (nI m_taped) (nI m_at) (nI m_to) (nI m_many) (nI m_readMany) m_fewest (nI m_size) mn mf_31 mr_39) H := hP
                    have hD : va_D A (wl_k_X9_spread cI cJ cK m0 a_row a_tape a_number a_read a_readBits a_stands a_parted a_bitsWere a_stood a_chosen a_bestChosen a_often a_sorted a_risen a_risenWays 0 (nI m_told_38) (nI m_taped) (nI m_at) (nI m_to) (nI m_many) (nI m_readMany) m_fewest (nI m_size) mn mf_31 mr_39) := hD
                    refine lv_iload hx hb dX9_spread_102 (lv_at hl 2 rfl) ?_
                    refine lv_iload hx hb dX9_spread_104 (lv_at hl 3 rfl) ?_
                    refine lv_iadd hx hb dX9_spread_106 ?_
                    refine my_eqi (y := nI (f + 32)) (my_addN f 32) ?_
                    refine lv_istore (lv' := [(6, .int (nI (f + 32))), (5, .int (nI (t + 1))), (7, .int (nI t_32)), (4, .int 32), (0, .ref m0), (1, .int (nI a_1)), (2, .int (nI b_2)), (3, .int 3)]) hx hb dX9_spread_107 hl (by decide) rfl (fun ls hl => ?_)
                    refine lv_goto (tgt := 53) hx hb dX9_spread_109 (by decide) ?_
                    exact ih53  (f + 32) (t + 1) m_told_38 mr_39 (by omega) (by first | assumption | omega | decide +kernel) (by first | assumption | omega | decide +kernel) (by first | assumption | omega | decide +kernel) (by first | assumption | omega | decide +kernel) (by rw [show m_told_38 = m0_told_53 + 1 from (by omega)]; first | exact ct_yes ht (decide_eq_true (by omega)) | exact ct_no ht (decide_eq_false (by omega))) (by first | assumption | omega | decide +kernel) _ _ ls hP hD hS (lv_sub hl [0, 1, 3, 4, 5, 6, 7] rfl)
            exact loop53 ((256 - 0) + 1) 0 0 0 mr (Nat.lt_succ_self _) (by first | assumption | omega | decide +kernel) (by first | assumption | omega | decide +kernel) (by first | assumption | omega | decide +kernel) (by first | assumption | omega | decide +kernel) (rfl) (by first | assumption | omega | decide +kernel) _ _ ls hP hD hS (lv_sub hl [0, 1, 2, 3, 4, 5, 6] rfl)
          ·
            refine lv_aload_n hx hb dX9_spread_28 rfl (lv_at hl 0 rfl) ?_
            refine lv_iconst (v := 0) hx hb dX9_spread_29 (by decide +kernel) ?_
            refine lv_iload_n hx hb dX9_spread_30 rfl (lv_at hl 1 rfl) ?_
            refine lv_iload_n hx hb dX9_spread_31 rfl (lv_at hl 2 rfl) ?_
            refine my_goVS (wc := (wl_k0_X9_counts cI cJ cK m0 a_row a_tape a_number a_read a_readBits a_stands a_parted a_bitsWere a_stood a_chosen a_bestChosen a_often a_sorted a_risen a_risenWays 0 (nI m_told) (nI m_taped) (nI m_at) (nI m_to) (nI m_many) (nI m_readMany) m_fewest (nI m_size) mn mf)) hP hD hS hA [0, 1, 2] rfl [some 0, some 1, some 2] (by decide +kernel) (my_cV (As := [.int 0, .int (nI a_1), .int (nI b_2)]) (rest := []) (ci := 9) (wc := (wl_k0_X9_counts cI cJ cK m0 a_row a_tape a_number a_read a_readBits a_stands a_parted a_bitsWere a_stood a_chosen a_bestChosen a_often a_sorted a_risen a_risenWays 0 (nI m_told) (nI m_taped) (nI m_at) (nI m_to) (nI m_many) (nI m_readMany) m_fewest (nI m_size) mn mf)) ⟨hx, hb, hml, hown, hts⟩ (cwV 3 hts gX9_spread_X9_counts rfl rfl rfl (by decide +kernel) ⟨Nat.le_of_ble_eq_true rfl, Nat.le_of_ble_eq_true rfl⟩) hN hK hP hD [0, 1, 2] rfl (by decide) rfl 0 rfl rfl rfl rfl hl.1 rfl (Nat.le_of_ble_eq_true rfl) dX9_spread_32 ⟨Nat.le_of_ble_eq_true rfl, Nat.le_of_ble_eq_true rfl⟩  ((k0_X9_counts l D cI cJ cK m0 a_row a_tape a_number a_read a_readBits a_stands a_parted a_bitsWere a_stood a_chosen a_bestChosen a_often a_sorted a_risen a_risenWays (0 : Int32) m_told m_taped m_at m_to m_many m_readMany m_fewest m_size mn mf a_1 b_2 (by first | assumption | omega | decide +kernel) (by first | assumption | omega | decide +kernel) (by first | assumption | omega | decide +kernel) (by first | assumption | omega | decide +kernel) (by first | assumption | omega | decide +kernel) (by first | assumption | omega | decide +kernel) (by first | assumption | omega | decide +kernel) hR_mn (by first | assumption | omega | decide +kernel) (by first | assumption | omega | decide +kernel)) _)) (fun u H locs hp hPD hS => ?_)
            obtain ⟨mf_42, rfl, hcn0, hco0⟩ := hp
            obtain ⟨hP, hD⟩ := hPD rfl
            have hP : va_P D vwCl (wl_k_X9_spread cI cJ cK m0 a_row a_tape a_number a_read a_readBits a_stands a_parted a_bitsWere a_stood a_chosen a_bestChosen a_often a_sorted a_risen a_risenWays 0 (nI m_told) (nI m_taped) (nI m_at) (nI m_to) (nI m_many) (nI m_readMany) m_fewest (nI m_size) mn mf_42 mr) H := hP
            have hD : va_D A (wl_k_X9_spread cI cJ cK m0 a_row a_tape a_number a_read a_readBits a_stands a_parted a_bitsWere a_stood a_chosen a_bestChosen a_often a_sorted a_risen a_risenWays 0 (nI m_told) (nI m_taped) (nI m_at) (nI m_to) (nI m_many) (nI m_readMany) m_fewest (nI m_size) mn mf_42 mr) := hD
            refine lv_sipush (v := 256) hx hb dX9_spread_35 (by decide +kernel) ?_
            refine lv_iload_n hx hb dX9_spread_38 rfl (lv_at hl 3 rfl) ?_
            refine lv_ishr hx hb dX9_spread_39 ?_
            refine my_eqi (y := 16) (by decide +kernel) ?_
            refine lv_istore (lv' := [(4, .int 16), (0, .ref m0), (1, .int (nI a_1)), (2, .int (nI b_2)), (3, .int 4)]) hx hb dX9_spread_40 hl (by decide) rfl (fun ls hl => ?_)
            refine lv_iconst (v := 0) hx hb dX9_spread_42 (by decide +kernel) ?_
            refine lv_istore (lv' := [(5, .int 0), (4, .int 16), (0, .ref m0), (1, .int (nI a_1)), (2, .int (nI b_2)), (3, .int 4)]) hx hb dX9_spread_43 hl (by decide) rfl (fun ls hl => ?_)
            refine lv_aload_n hx hb dX9_spread_45 rfl (lv_at hl 2 rfl) ?_
            refine lv_iconst (v := 0) hx hb dX9_spread_46 (by decide +kernel) ?_
            refine va_put (ci := 9) (v := .int 0) (ty := (.int)) (C := RX9) (T := TX9) (N := 24) hx hb hts hi9 tyX9 tyX9_ok nmX9 hown hK hP hD hS 0 rfl rfl 1 (by decide) fl11 (fun _ h9 => h9) rfl (by decide +kernel) rfl rfl (Nat.le_of_ble_eq_true rfl) dX9_spread_47 (fun H locs hP hD hS => ?_)
            have hP : va_P D vwCl (wl_k_X9_spread cI cJ cK m0 a_row a_tape a_number a_read a_readBits a_stands a_parted a_bitsWere a_stood a_chosen a_bestChosen a_often a_sorted a_risen a_risenWays 0 0 (nI m_taped) (nI m_at) (nI m_to) (nI m_many) (nI m_readMany) m_fewest (nI m_size) mn mf_42 mr) H := hP
            have hD : va_D A (wl_k_X9_spread cI cJ cK m0 a_row a_tape a_number a_read a_readBits a_stands a_parted a_bitsWere a_stood a_chosen a_bestChosen a_often a_sorted a_risen a_risenWays 0 0 (nI m_taped) (nI m_at) (nI m_to) (nI m_many) (nI m_readMany) m_fewest (nI m_size) mn mf_42 mr) := hD
            refine lv_iconst (v := 0) hx hb dX9_spread_50 (by decide +kernel) ?_
            refine lv_istore (lv' := [(6, .int 0), (5, .int 0), (4, .int 16), (0, .ref m0), (1, .int (nI a_1)), (2, .int (nI b_2)), (3, .int 4)]) hx hb dX9_spread_51 hl (by decide) rfl (fun ls hl => ?_)
            have loop53 : ∀ (n9 : Nat) (f : Nat) (t : Nat) (m0_told_53 : Nat) (a_row_53 : Nat → Int64), 256 - f < n9 → (t ≤ 16) → (f ≤ 256) → (m0_told_53 * 16 = f) → (t ≤ m0_told_53) → (t = fb_ct (spP mn 4 a_1 b_2) m0_told_53) → (m0_told_53 ≤ 64) → ∀ (H : Heap) (locs : List Loc) (ls : Array Slot), va_P D vwCl (wl_k_X9_spread cI cJ cK m0 a_row a_tape a_number a_read a_readBits a_stands a_parted a_bitsWere a_stood a_chosen a_bestChosen a_often a_sorted a_risen a_risenWays 0 (nI m0_told_53) (nI m_taped) (nI m_at) (nI m_to) (nI m_many) (nI m_readMany) m_fewest (nI m_size) mn mf_42 a_row_53) H → va_D A (wl_k_X9_spread cI cJ cK m0 a_row a_tape a_number a_read a_readBits a_stands a_parted a_bitsWere a_stood a_chosen a_bestChosen a_often a_sorted a_risen a_risenWays 0 (nI m0_told_53) (nI m_taped) (nI m_at) (nI m_to) (nI m_many) (nI m_readMany) m_fewest (nI m_size) mn mf_42 a_row_53) → va_S A s.heap H locs → lv_has ls 8 [(6, .int (nI f)), (5, .int (nI t)), (4, .int 16), (0, .ref m0), (1, .int (nI a_1)), (2, .int (nI b_2)), (3, .int 4)] → W p l e ({ frames := 2, cells := 0, slots := 0, locals := 120 } : Room) s m [.ref m0, .int (nI a_1), .int (nI b_2), .int (4 : Int32)].toArray below meth c H locs 0 0 (MQ below (va_Qi (fun (r : Int32) (u : va_W) => (∃ (m_thrown' : Int32), u = (wl_k_X9_spread cI cJ cK m0 a_row a_tape a_number a_read a_readBits a_stands a_parted a_bitsWere a_stood a_chosen a_bestChosen a_often a_sorted a_risen a_risenWays m_thrown' (nI m_told) (nI m_taped) (nI m_at) (nI m_to) (nI m_many) (nI m_readMany) m_fewest (nI m_size) mn mf mr) ∧ r = (-1) ∧ ((nI a_1).toInt < 0 ∨ (nI b_2).toInt < (nI a_1).toInt ∨ m_many < (nI b_2).toInt ∨ (4 : Int32).toInt < 1 ∨ 4 < (4 : Int32).toInt)) ∨ (∃ (t' : Nat) (m_thrown' : Int32) (m_told' : Nat) (mf' : Nat → Int32) (mr' : Nat → Int64), u = (wl_k_X9_spread cI cJ cK m0 a_row a_tape a_number a_read a_readBits a_stands a_parted a_bitsWere a_stood a_chosen a_bestChosen a_often a_sorted a_risen a_risenWays m_thrown' (nI m_told') (nI m_taped) (nI m_at) (nI m_to) (nI m_many) (nI m_readMany) m_fewest (nI m_size) mn mf' mr') ∧ r = nI t' ∧ m_told' ≤ 64 ∧ 0 ≤ (nI a_1).toInt ∧ (nI a_1).toInt ≤ (nI b_2).toInt ∧ (nI b_2).toInt ≤ m_many ∧ 1 ≤ (4 : Int32).toInt ∧ (4 : Int32).toInt ≤ 4 ∧ t' = fb_ct (spP mn (4 : Int32).toInt.toNat (nI a_1).toInt.toNat (nI b_2).toInt.toNat) (2 ^ (4 : Int32).toInt.toNat) ∧ m_told' = 2 ^ (4 : Int32).toInt.toNat)) (my_B D (tyIJ cI cJ cK) A) A) [.ref m0, .int (nI a_1), .int (nI b_2), .int (4 : Int32)].toArray s 0 0 A) (F0 m 53 ls []) := by
              intro n9
              induction n9 with
              | zero =>
                intro f t m0_told_53 a_row_53 hn9
                exact absurd hn9 (Nat.not_lt_zero _)
              | succ n9 ih53 =>
                intro f t m0_told_53 a_row_53 hn9 hk_t hk_f htd htt ht hz_m0_told_53 H locs ls hP hD hS hl
                have hbk := fun h9 => cnl_blk hR_mn (p := 4) (h := m0_told_53) (a := a_1) (w := 16) (by decide) h9 b_2
                refine lv_iload hx hb dX9_spread_53 (lv_at hl 0 rfl) ?_
                refine lv_sipush (v := 256) hx hb dX9_spread_55 (by decide +kernel) ?_
                refine lv_icmp_ge (tgt := 112) hx hb dX9_spread_58 (by decide) (fun c58 => ?_) (fun c58 => ?_)
                ·
                  have d58 : ((f : Nat) : Int) ≥ (256 : Int) := my_ge c58 (nI_toInt (by omega)) (by decide +kernel)
                  have hve : m0_told_53 = 16 := by omega
                  refine lv_iload hx hb dX9_spread_112 (lv_at hl 1 rfl) ?_
                  have hsI_l9 : (nI a_1).toInt = ((a_1 : Nat) : Int) := nI_toInt (by omega)
                  have hsN_l9 : (nI a_1).toInt.toNat = a_1 := nIt (by omega)
                  have hsI_r9 : (nI b_2).toInt = ((b_2 : Nat) : Int) := nI_toInt (by omega)
                  have hsN_r9 : (nI b_2).toInt.toNat = b_2 := nIt (by omega)
                  exact my_retI hx hb hr hlocks hK hS (wl_k_X9_spread cI cJ cK m0 a_row a_tape a_number a_read a_readBits a_stands a_parted a_bitsWere a_stood a_chosen a_bestChosen a_often a_sorted a_risen a_risenWays 0 (nI m0_told_53) (nI m_taped) (nI m_at) (nI m_to) (nI m_many) (nI m_readMany) m_fewest (nI m_size) mn mf_42 a_row_53) hP hD (Or.inr (⟨t, 0, m0_told_53, mf_42, a_row_53, rfl, rfl, (by first | assumption | omega | trivial | decide +kernel), (by first | assumption | omega | trivial | decide +kernel), (by first | assumption | omega | trivial | decide +kernel), (by first | assumption | omega | trivial | decide +kernel), (by first | assumption | omega | trivial | decide +kernel), (by first | assumption | omega | trivial | decide +kernel), (by rw [hsN_l9, hsN_r9]; rw [hve] at ht; exact ht), (hve.trans (by decide +kernel))⟩)) dX9_spread_114
                ·
                  have d58 : ((f : Nat) : Int) < (256 : Int) := my_nge c58 (nI_toInt (by omega)) (by decide +kernel)
                  refine lv_aload_n hx hb dX9_spread_61 rfl (lv_at hl 3 rfl) ?_
                  refine lv_iconst (v := 0) hx hb dX9_spread_62 (by decide +kernel) ?_
                  refine lv_iload hx hb dX9_spread_63 (lv_at hl 0 rfl) ?_
                  refine lv_iload hx hb dX9_spread_65 (lv_at hl 0 rfl) ?_
                  refine lv_iload hx hb dX9_spread_67 (lv_at hl 2 rfl) ?_
                  refine lv_iadd hx hb dX9_spread_69 ?_
                  refine my_eqi (y := nI (f + 16)) (my_addN f 16) ?_
                  refine lv_iconst (v := 1) hx hb dX9_spread_70 (by decide +kernel) ?_
                  refine lv_isub hx hb dX9_spread_71 ?_
                  refine my_eqi (y := nI ((f + 16) - 1)) (my_subN (a := f + 16) (b := 1) (by omega)) ?_
                  refine my_gpI (my_pV (As := [.int 0, .int (nI f), .int (nI ((f + 16) - 1))]) (rest := []) (ci := 9) ⟨hx, hb, hml, hown, hts⟩ (cwV 3 hts gX9_spread_X9_within rfl rfl rfl (by decide +kernel) ⟨Nat.le_of_ble_eq_true rfl, Nat.le_of_ble_eq_true rfl⟩) hN hK hP [0, 2] rfl 0 rfl rfl rfl rfl hl.1 rfl (Nat.le_of_ble_eq_true rfl) dX9_spread_72 ⟨Nat.le_of_ble_eq_true rfl, Nat.le_of_ble_eq_true rfl⟩  (kw_X9_within l D cI cJ cK m0 a_row a_tape a_number a_read a_readBits a_stands a_parted a_bitsWere a_stood a_chosen a_bestChosen a_often a_sorted a_risen a_risenWays (0 : Int32) m0_told_53 m_taped m_at m_to m_many m_readMany m_fewest m_size mf_42 f ((f + 16) - 1) (cnF mn a_1 b_2) (by first | assumption | omega | decide +kernel) (by first | assumption | omega | decide +kernel) (by first | assumption | omega | decide +kernel) (by first | assumption | omega | decide +kernel) (by first | assumption | omega | decide +kernel) (by first | assumption | omega | decide +kernel) (by first | assumption | omega | decide +kernel) (by first | assumption | omega | decide +kernel) (by first | assumption | omega | decide +kernel) (hcn0) (fun v => cnF_64 (by omega)))) (fun r hp => ?_)
                  obtain ⟨t_43, rfl, hwt, hq_44⟩ := hp
                  have hs6 := cnF_sum hR_mn (a := a_1) (b := b_2) (by omega); have hm6 := sm_mono (cnF mn a_1 b_2) (show f + 16 - 1 + 1 ≤ 256 by omega); have hb2 := hbk (by omega)
                  rw [show m0_told_53 * 16 = f from htd, show (m0_told_53 + 1) * 16 = f + 16 - 1 + 1 from (by omega)] at hb2
                  refine lv_istore (lv' := [(7, .int (nI t_43)), (6, .int (nI f)), (5, .int (nI t)), (4, .int 16), (0, .ref m0), (1, .int (nI a_1)), (2, .int (nI b_2)), (3, .int 4)]) hx hb dX9_spread_75 hl (by decide) rfl (fun ls hl => ?_)
                  refine lv_iload hx hb dX9_spread_77 (lv_at hl 2 rfl) ?_
                  refine lv_iload hx hb dX9_spread_79 (lv_at hl 0 rfl) ?_
                  refine lv_if_le (tgt := 88) hx hb dX9_spread_81 (by decide) (fun c81 => ?_) (fun c81 => ?_)
                  ·
                    have d81 : ((t_43 : Nat) : Int) ≤ (0 : Int) := my_le c81 (nI_toInt (by omega)) (by decide +kernel)
                    refine lv_iconst (v := 0) hx hb dX9_spread_88 (by decide +kernel) ?_
                    refine my_gpI (my_pS (As := [.int 0]) (rest := [.int (nI t)]) ⟨hx, hb, hml, hown, hts⟩ (va_cwS 1 hts gX9_spread_X9_flag rfl rfl rfl (by decide +kernel) ⟨Nat.le_of_ble_eq_true rfl, Nat.le_of_ble_eq_true rfl⟩) hN hK hP [] rfl rfl hl.1 rfl (Nat.le_of_ble_eq_true rfl) dX9_spread_89 ⟨Nat.le_of_ble_eq_true rfl, Nat.le_of_ble_eq_true rfl⟩  (k0_X9_flag l D cI cJ cK )) (fun r hp => ?_)
                    obtain rfl := hp
                    refine lv_iadd hx hb dX9_spread_92 ?_
                    refine my_eqi (y := nI t) (my_addN t 0) ?_
                    refine lv_istore (lv' := [(5, .int (nI t)), (7, .int (nI t_43)), (6, .int (nI f)), (4, .int 16), (0, .ref m0), (1, .int (nI a_1)), (2, .int (nI b_2)), (3, .int 4)]) hx hb dX9_spread_93 hl (by decide) rfl (fun ls hl => ?_)
                    refine lv_aload_n hx hb dX9_spread_95 rfl (lv_at hl 4 rfl) ?_
                    refine lv_iload hx hb dX9_spread_96 (lv_at hl 1 rfl) ?_
                    refine lv_i2l (v := lN t_43) hx hb dX9_spread_98 (nI_l (by omega)) ?_
                    refine my_goVS (wc := (wl_k_X9_enters cI cJ cK m0 a_row a_tape a_number a_read a_readBits a_stands a_parted a_bitsWere a_stood a_chosen a_bestChosen a_often a_sorted a_risen a_risenWays 0 (nI m0_told_53) (nI m_taped) (nI m_at) (nI m_to) (nI m_many) (nI m_readMany) m_fewest (nI m_size) a_row_53)) hP hD hS hA [0, 3] rfl [some 0, none, none, some 1] (by decide +kernel) (my_cV (As := [.long (lN t_43)]) (rest := []) (ci := 9) (wc := (wl_k_X9_enters cI cJ cK m0 a_row a_tape a_number a_read a_readBits a_stands a_parted a_bitsWere a_stood a_chosen a_bestChosen a_often a_sorted a_risen a_risenWays 0 (nI m0_told_53) (nI m_taped) (nI m_at) (nI m_to) (nI m_many) (nI m_readMany) m_fewest (nI m_size) a_row_53)) ⟨hx, hb, hml, hown, hts⟩ (cwV 1 hts gX9_spread_X9_enters rfl rfl rfl (by decide +kernel) ⟨Nat.le_of_ble_eq_true rfl, Nat.le_of_ble_eq_true rfl⟩) hN hK hP hD [0, 3] rfl (by decide) rfl 0 rfl rfl rfl rfl hl.1 rfl (Nat.le_of_ble_eq_true rfl) dX9_spread_99 ⟨Nat.le_of_ble_eq_true rfl, Nat.le_of_ble_eq_true rfl⟩  ((k_X9_enters l D cI cJ cK m0 a_row a_tape a_number a_read a_readBits a_stands a_parted a_bitsWere a_stood a_chosen a_bestChosen a_often a_sorted a_risen a_risenWays (0 : Int32) m0_told_53 m_taped m_at m_to m_many m_readMany m_fewest m_size a_row_53 (lN t_43) (by first | assumption | omega | decide +kernel) (by first | assumption | omega | decide +kernel) (by first | assumption | omega | decide +kernel) (by first | assumption | omega | decide +kernel) (by first | assumption | omega | decide +kernel) (by first | assumption | omega | decide +kernel) (by first | assumption | omega | decide +kernel) (by first | assumption | omega | decide +kernel)) _)) (fun u H locs hp hPD hS => ?_)
                    obtain ⟨m_told_45, mr_46, rfl, hhz_m_told_47, ht_48⟩ := hp
                    obtain ⟨hP, hD⟩ := hPD rfl
                    have hP : va_P D vwCl (wl_k_X9_spread cI cJ cK m0 a_row a_tape a_number a_read a_readBits a_stands a_parted a_bitsWere a_stood a_chosen a_bestChosen a_often a_sorted a_risen a_risenWays 0 (nI m_told_45) (nI m_taped) (nI m_at) (nI m_to) (nI m_many) (nI m_readMany) m_fewest (nI m_size) mn mf_42 mr_46) H := hP
                    have hD : va_D A (wl_k_X9_spread cI cJ cK m0 a_row a_tape a_number a_read a_readBits a_stands a_parted a_bitsWere a_stood a_chosen a_bestChosen a_often a_sorted a_risen a_risenWays 0 (nI m_told_45) (nI m_taped) (nI m_at) (nI m_to) (nI m_many) (nI m_readMany) m_fewest (nI m_size) mn mf_42 mr_46) := hD
                    refine lv_iload hx hb dX9_spread_102 (lv_at hl 2 rfl) ?_
                    refine lv_iload hx hb dX9_spread_104 (lv_at hl 3 rfl) ?_
                    refine lv_iadd hx hb dX9_spread_106 ?_
                    refine my_eqi (y := nI (f + 16)) (my_addN f 16) ?_
                    refine lv_istore (lv' := [(6, .int (nI (f + 16))), (5, .int (nI t)), (7, .int (nI t_43)), (4, .int 16), (0, .ref m0), (1, .int (nI a_1)), (2, .int (nI b_2)), (3, .int 4)]) hx hb dX9_spread_107 hl (by decide) rfl (fun ls hl => ?_)
                    refine lv_goto (tgt := 53) hx hb dX9_spread_109 (by decide) ?_
                    exact ih53  (f + 16) t m_told_45 mr_46 (by omega) (by first | assumption | omega | decide +kernel) (by first | assumption | omega | decide +kernel) (by first | assumption | omega | decide +kernel) (by first | assumption | omega | decide +kernel) (by rw [show m_told_45 = m0_told_53 + 1 from (by omega)]; first | exact ct_yes ht (decide_eq_true (by omega)) | exact ct_no ht (decide_eq_false (by omega))) (by first | assumption | omega | decide +kernel) _ _ ls hP hD hS (lv_sub hl [0, 1, 3, 4, 5, 6, 7] rfl)
                  ·
                    have d81 : ((t_43 : Nat) : Int) > (0 : Int) := my_nle c81 (nI_toInt (by omega)) (by decide +kernel)
                    refine lv_iconst (v := 1) hx hb dX9_spread_84 (by decide +kernel) ?_
                    refine lv_goto (tgt := 89) hx hb dX9_spread_85 (by decide) ?_
                    refine my_gpI (my_pS (As := [.int 1]) (rest := [.int (nI t)]) ⟨hx, hb, hml, hown, hts⟩ (va_cwS 1 hts gX9_spread_X9_flag rfl rfl rfl (by decide +kernel) ⟨Nat.le_of_ble_eq_true rfl, Nat.le_of_ble_eq_true rfl⟩) hN hK hP [] rfl rfl hl.1 rfl (Nat.le_of_ble_eq_true rfl) dX9_spread_89 ⟨Nat.le_of_ble_eq_true rfl, Nat.le_of_ble_eq_true rfl⟩  (k1_X9_flag l D cI cJ cK )) (fun r hp => ?_)
                    obtain rfl := hp
                    refine lv_iadd hx hb dX9_spread_92 ?_
                    refine my_eqi (y := nI (t + 1)) (my_addN t 1) ?_
                    refine lv_istore (lv' := [(5, .int (nI (t + 1))), (7, .int (nI t_43)), (6, .int (nI f)), (4, .int 16), (0, .ref m0), (1, .int (nI a_1)), (2, .int (nI b_2)), (3, .int 4)]) hx hb dX9_spread_93 hl (by decide) rfl (fun ls hl => ?_)
                    refine lv_aload_n hx hb dX9_spread_95 rfl (lv_at hl 4 rfl) ?_
                    refine lv_iload hx hb dX9_spread_96 (lv_at hl 1 rfl) ?_
                    refine lv_i2l (v := lN t_43) hx hb dX9_spread_98 (nI_l (by omega)) ?_
                    refine my_goVS (wc := (wl_k_X9_enters cI cJ cK m0 a_row a_tape a_number a_read a_readBits a_stands a_parted a_bitsWere a_stood a_chosen a_bestChosen a_often a_sorted a_risen a_risenWays 0 (nI m0_told_53) (nI m_taped) (nI m_at) (nI m_to) (nI m_many) (nI m_readMany) m_fewest (nI m_size) a_row_53)) hP hD hS hA [0, 3] rfl [some 0, none, none, some 1] (by decide +kernel) (my_cV (As := [.long (lN t_43)]) (rest := []) (ci := 9) (wc := (wl_k_X9_enters cI cJ cK m0 a_row a_tape a_number a_read a_readBits a_stands a_parted a_bitsWere a_stood a_chosen a_bestChosen a_often a_sorted a_risen a_risenWays 0 (nI m0_told_53) (nI m_taped) (nI m_at) (nI m_to) (nI m_many) (nI m_readMany) m_fewest (nI m_size) a_row_53)) ⟨hx, hb, hml, hown, hts⟩ (cwV 1 hts gX9_spread_X9_enters rfl rfl rfl (by decide +kernel) ⟨Nat.le_of_ble_eq_true rfl, Nat.le_of_ble_eq_true rfl⟩) hN hK hP hD [0, 3] rfl (by decide) rfl 0 rfl rfl rfl rfl hl.1 rfl (Nat.le_of_ble_eq_true rfl) dX9_spread_99 ⟨Nat.le_of_ble_eq_true rfl, Nat.le_of_ble_eq_true rfl⟩  ((k_X9_enters l D cI cJ cK m0 a_row a_tape a_number a_read a_readBits a_stands a_parted a_bitsWere a_stood a_chosen a_bestChosen a_often a_sorted a_risen a_risenWays (0 : Int32) m0_told_53 m_taped m_at m_to m_many m_readMany m_fewest m_size a_row_53 (lN t_43) (by first | assumption | omega | decide +kernel) (by first | assumption | omega | decide +kernel) (by first | assumption | omega | decide +kernel) (by first | assumption | omega | decide +kernel) (by first | assumption | omega | decide +kernel) (by first | assumption | omega | decide +kernel) (by first | assumption | omega | decide +kernel) (by first | assumption | omega | decide +kernel)) _)) (fun u H locs hp hPD hS => ?_)
                    obtain ⟨m_told_49, mr_50, rfl, hhz_m_told_51, ht_52⟩ := hp
                    obtain ⟨hP, hD⟩ := hPD rfl
                    have hP : va_P D vwCl (wl_k_X9_spread cI cJ cK m0 a_row a_tape a_number a_read a_readBits a_stands a_parted a_bitsWere a_stood a_chosen a_bestChosen a_often a_sorted a_risen a_risenWays 0 (nI m_told_49) (nI m_taped) (nI m_at) (nI m_to) (nI m_many) (nI m_readMany) m_fewest (nI m_size) mn mf_42 mr_50) H := hP
                    have hD : va_D A (wl_k_X9_spread cI cJ cK m0 a_row a_tape a_number a_read a_readBits a_stands a_parted a_bitsWere a_stood a_chosen a_bestChosen a_often a_sorted a_risen a_risenWays 0 (nI m_told_49) (nI m_taped) (nI m_at) (nI m_to) (nI m_many) (nI m_readMany) m_fewest (nI m_size) mn mf_42 mr_50) := hD
                    refine lv_iload hx hb dX9_spread_102 (lv_at hl 2 rfl) ?_
                    refine lv_iload hx hb dX9_spread_104 (lv_at hl 3 rfl) ?_
                    refine lv_iadd hx hb dX9_spread_106 ?_
                    refine my_eqi (y := nI (f + 16)) (my_addN f 16) ?_
                    refine lv_istore (lv' := [(6, .int (nI (f + 16))), (5, .int (nI (t + 1))), (7, .int (nI t_43)), (4, .int 16), (0, .ref m0), (1, .int (nI a_1)), (2, .int (nI b_2)), (3, .int 4)]) hx hb dX9_spread_107 hl (by decide) rfl (fun ls hl => ?_)
                    refine lv_goto (tgt := 53) hx hb dX9_spread_109 (by decide) ?_
                    exact ih53  (f + 16) (t + 1) m_told_49 mr_50 (by omega) (by first | assumption | omega | decide +kernel) (by first | assumption | omega | decide +kernel) (by first | assumption | omega | decide +kernel) (by first | assumption | omega | decide +kernel) (by rw [show m_told_49 = m0_told_53 + 1 from (by omega)]; first | exact ct_yes ht (decide_eq_true (by omega)) | exact ct_no ht (decide_eq_false (by omega))) (by first | assumption | omega | decide +kernel) _ _ ls hP hD hS (lv_sub hl [0, 1, 3, 4, 5, 6, 7] rfl)
            exact loop53 ((256 - 0) + 1) 0 0 0 mr (Nat.lt_succ_self _) (by first | assumption | omega | decide +kernel) (by first | assumption | omega | decide +kernel) (by first | assumption | omega | decide +kernel) (by first | assumption | omega | decide +kernel) (rfl) (by first | assumption | omega | decide +kernel) _ _ ls hP hD hS (lv_sub hl [0, 1, 2, 3, 4, 5, 6] rfl)
        ·
          exact absurd c23 (by decide +kernel)
      ·
        refine lv_if_ne (tgt := 28) hx hb dX9_spread_23 (by decide) (fun c23 => ?_) (fun c23 => ?_)
        ·
          exact absurd c23 (by decide +kernel)
        ·
          refine lv_iconst (v := (-1)) hx hb dX9_spread_26 (by decide +kernel) ?_
          have hsI_l9 : (nI a_1).toInt = ((a_1 : Nat) : Int) := nI_toInt (by omega)
          have hsN_l9 : (nI a_1).toInt.toNat = a_1 := nIt (by omega)
          have hsI_r9 : (nI b_2).toInt = ((b_2 : Nat) : Int) := nI_toInt (by omega)
          have hsN_r9 : (nI b_2).toInt.toNat = b_2 := nIt (by omega)
          exact my_retI hx hb hr hlocks hK hS (wl_k_X9_spread cI cJ cK m0 a_row a_tape a_number a_read a_readBits a_stands a_parted a_bitsWere a_stood a_chosen a_bestChosen a_often a_sorted a_risen a_risenWays 0 (nI m_told) (nI m_taped) (nI m_at) (nI m_to) (nI m_many) (nI m_readMany) m_fewest (nI m_size) mn mf mr) hP hD (Or.inl ⟨0, rfl, rfl, (by first | assumption | omega | trivial | decide +kernel)⟩) dX9_spread_27
  ·
    refine lv_if_eq (tgt := 26) hx hb dX9_spread_11 (by decide) (fun c11 => ?_) (fun c11 => ?_)
    ·
      refine lv_iconst (v := (-1)) hx hb dX9_spread_26 (by decide +kernel) ?_
      exact my_retI hx hb hr hlocks hK hS (wl_k_X9_spread cI cJ cK m0 a_row a_tape a_number a_read a_readBits a_stands a_parted a_bitsWere a_stood a_chosen a_bestChosen a_often a_sorted a_risen a_risenWays 0 (nI m_told) (nI m_taped) (nI m_at) (nI m_to) (nI m_many) (nI m_readMany) m_fewest (nI m_size) mn mf mr) hP hD (Or.inl ⟨0, rfl, rfl, (by first | assumption | omega | trivial | decide +kernel)⟩) dX9_spread_27
    ·
      exact absurd c11 (by decide +kernel)
abbrev wl_k_X9_nearest (cI cJ cK : ClassId) (m0 : Nat) (a_row : Nat) (a_tape : Nat) (a_number : Nat) (a_read : Nat) (a_readBits : Nat) (a_stands : Nat) (a_parted : Nat) (a_bitsWere : Nat) (a_stood : Nat) (a_chosen : Nat) (a_bestChosen : Nat) (a_often : Nat) (a_sorted : Nat) (a_risen : Nat) (a_risenWays : Nat) (v0_ : Int32) (v1_ : Int32) (v2_ : Int32) (v3_ : Int32) (v4_ : Int32) (v5_ : Int32) (v6_ : Int32) (v7_ : Int32) (v8_ : Int32) (v9_ : Nat → Int32) (v10_ : Nat → Int32) (v11_ : Nat → Int32) (v12_ : Nat → Int64) : va_W := [(m0, .inr (9, [.int v0_, .int v1_, .ref a_row, .ref a_tape, .int v2_, .int v3_, .int v4_, .int v5_, .ref a_number, .ref a_read, .int v6_, .ref a_readBits, .ref a_stands, .ref a_parted, .ref a_bitsWere, .ref a_stood, .ref a_chosen, .ref a_bestChosen, .int v7_, .ref a_often, .ref a_sorted, .int v8_, .ref a_risen, .ref a_risenWays])), (a_number, .inl (cI, 64, .inl v9_)), (a_often, .inl (cI, 512, .inl v10_)), (a_sorted, .inl (cI, 128, .inl v11_)), (a_row, .inl (cJ, 64, .inr (.inl v12_)))]
set_option maxHeartbeats 4000000 in
set_option maxRecDepth 100000 in
theorem k_X9_nearest (l : Launch) (D : va_G) (cI cJ cK : ClassId) (m0 : Nat) (a_row : Nat) (a_tape : Nat) (a_number : Nat) (a_read : Nat) (a_readBits : Nat) (a_stands : Nat) (a_parted : Nat) (a_bitsWere : Nat) (a_stood : Nat) (a_chosen : Nat) (a_bestChosen : Nat) (a_often : Nat) (a_sorted : Nat) (a_risen : Nat) (a_risenWays : Nat) (m_thrown : Int32) (m_told : Nat) (m_taped : Nat) (m_at : Nat) (m_to : Nat) (m_many : Nat) (m_readMany : Nat) (m_fewest : Int32) (m_size : Nat) (mn : Nat → Int32) (mf : Nat → Int32) (mg : Nat → Int32) (mr : Nat → Int64) (l9 : Int32) (r9 : Int32) (hz_m_told : m_told ≤ 64) (hz_m_taped : m_taped ≤ 100) (hz_m_at : m_at ≤ 100) (hz_m_to : m_to ≤ 100) (hz_m_many : m_many ≤ 64) (hz_m_readMany : m_readMany ≤ 64) (hz_m_size : m_size ≤ 64) (hR_mn : RB 0 255 mn) (hR_mg : RB 0 255 mg) : ctI l yX9_nearest wsX9_nearest ({ frames := 2, cells := 0, slots := 0, locals := 120 } : Room) D (tyIJ cI cJ cK) [.ref m0, .int l9, .int r9] (wl_k_X9_nearest cI cJ cK m0 a_row a_tape a_number a_read a_readBits a_stands a_parted a_bitsWere a_stood a_chosen a_bestChosen a_often a_sorted a_risen a_risenWays m_thrown (nI m_told) (nI m_taped) (nI m_at) (nI m_to) (nI m_many) (nI m_readMany) m_fewest (nI m_size) mn mf mg mr) (fun (r : Int32) (u : va_W) => (∃ (m_thrown' : Int32), u = (wl_k_X9_nearest cI cJ cK m0 a_row a_tape a_number a_read a_readBits a_stands a_parted a_bitsWere a_stood a_chosen a_bestChosen a_often a_sorted a_risen a_risenWays m_thrown' (nI m_told) (nI m_taped) (nI m_at) (nI m_to) (nI m_many) (nI m_readMany) m_fewest (nI m_size) mn mf mg mr) ∧ r = (-1) ∧ (l9.toInt < 0 ∨ r9.toInt < l9.toInt ∨ m_many < r9.toInt)) ∨ (∃ (m_thrown' : Int32), u = (wl_k_X9_nearest cI cJ cK m0 a_row a_tape a_number a_read a_readBits a_stands a_parted a_bitsWere a_stood a_chosen a_bestChosen a_often a_sorted a_risen a_risenWays m_thrown' (nI m_told) (nI m_taped) (nI m_at) (nI m_to) (nI m_many) (nI m_readMany) m_fewest (nI m_size) mn mf mg mr) ∧ r = (-2) ∧ 0 ≤ l9.toInt ∧ l9.toInt ≤ r9.toInt ∧ r9.toInt ≤ m_many ∧ r9.toInt - l9.toInt < 2) ∨ (∃ (t' : Nat) (m_thrown' : Int32) (m_told' : Nat) (m_size' : Nat) (mf' : Nat → Int32) (mg' : Nat → Int32) (mr' : Nat → Int64), u = (wl_k_X9_nearest cI cJ cK m0 a_row a_tape a_number a_read a_readBits a_stands a_parted a_bitsWere a_stood a_chosen a_bestChosen a_often a_sorted a_risen a_risenWays m_thrown' (nI m_told') (nI m_taped) (nI m_at) (nI m_to) (nI m_many) (nI m_readMany) m_fewest (nI m_size') mn mf' mg' mr') ∧ r = nI t' ∧ m_told' ≤ 64 ∧ m_size' ≤ 64 ∧ RB 0 255 mg' ∧ 0 ≤ l9.toInt ∧ l9.toInt ≤ r9.toInt ∧ r9.toInt ≤ m_many ∧ 2 ≤ r9.toInt - l9.toInt ∧ nsP mn l9.toInt.toNat r9.toInt.toNat t' ∧ m_told' = 2)) := by
  refine ctI.of (cc := cX9_nearest) (maxL := 9) (ret := (some .int)) (by decide) rfl (Nat.le_of_ble_eq_true rfl) ?_
  intro p e s m below meth c ls A hx hb hr hts hown hml hlocks hname hA hK hN hP hD hS hl
  have hl : lv_has ls 9 [(0, .ref m0), (1, .int l9), (2, .int r9)] := hl
  have hown : s.vm.findClass RX9 = some m.cls := hown
  have hi9 : ∀ w ∈ u_ws RX9 TX9 24, w ∈ wsX9_nearest := by decide +kernel
  have fl1 := hts (.fieldLink RX9 1 "PlaneColumnModel" "thrown" "I") (by decide +kernel)
  have fl11 := hts (.fieldLink RX9 11 "PlaneColumnModel" "told" "I") (by decide +kernel)
  have fl172 := hts (.fieldLink RX9 172 "PlaneColumnModel" "size" "I") (by decide +kernel)
  have fl79 := hts (.fieldLink RX9 79 "PlaneColumnModel" "sorted" "[I") (by decide +kernel)
  refine lv_aload_n hx hb dX9_nearest_0 rfl (lv_at hl 0 rfl) ?_
  refine lv_iconst (v := 0) hx hb dX9_nearest_1 (by decide +kernel) ?_
  refine va_put (ci := 9) (v := .int 0) (ty := (.int)) (C := RX9) (T := TX9) (N := 24) hx hb hts hi9 tyX9 tyX9_ok nmX9 hown hK hP hD hS 0 rfl rfl 0 (by decide) fl1 (fun _ h9 => h9) rfl (by decide +kernel) rfl rfl (Nat.le_of_ble_eq_true rfl) dX9_nearest_2 (fun H locs hP hD hS => ?_)
  have hP : va_P D vwCl (wl_k_X9_nearest cI cJ cK m0 a_row a_tape a_number a_read a_readBits a_stands a_parted a_bitsWere a_stood a_chosen a_bestChosen a_often a_sorted a_risen a_risenWays 0 (nI m_told) (nI m_taped) (nI m_at) (nI m_to) (nI m_many) (nI m_readMany) m_fewest (nI m_size) mn mf mg mr) H := hP
  have hD : va_D A (wl_k_X9_nearest cI cJ cK m0 a_row a_tape a_number a_read a_readBits a_stands a_parted a_bitsWere a_stood a_chosen a_bestChosen a_often a_sorted a_risen a_risenWays 0 (nI m_told) (nI m_taped) (nI m_at) (nI m_to) (nI m_many) (nI m_readMany) m_fewest (nI m_size) mn mf mg mr) := hD
  refine lv_aload_n hx hb dX9_nearest_5 rfl (lv_at hl 0 rfl) ?_
  refine lv_iload_n hx hb dX9_nearest_6 rfl (lv_at hl 1 rfl) ?_
  refine lv_iload_n hx hb dX9_nearest_7 rfl (lv_at hl 2 rfl) ?_
  refine my_gpI (my_pV (As := [.int l9, .int r9]) (rest := []) (ci := 9) ⟨hx, hb, hml, hown, hts⟩ (cwV 2 hts gX9_nearest_X9_isSpan rfl rfl rfl (by decide +kernel) ⟨Nat.le_of_ble_eq_true rfl, Nat.le_of_ble_eq_true rfl⟩) hN hK hP [0] rfl 0 rfl rfl rfl rfl hl.1 rfl (Nat.le_of_ble_eq_true rfl) dX9_nearest_8 ⟨Nat.le_of_ble_eq_true rfl, Nat.le_of_ble_eq_true rfl⟩  (k_X9_isSpan l D cI cJ cK m0 a_row a_tape a_number a_read a_readBits a_stands a_parted a_bitsWere a_stood a_chosen a_bestChosen a_often a_sorted a_risen a_risenWays (0 : Int32) m_told m_taped m_at m_to m_many m_readMany m_fewest m_size l9 r9 (by first | assumption | omega | decide +kernel) (by first | assumption | omega | decide +kernel) (by first | assumption | omega | decide +kernel) (by first | assumption | omega | decide +kernel) (by first | assumption | omega | decide +kernel) (by first | assumption | omega | decide +kernel) (by first | assumption | omega | decide +kernel))) (fun r hp => ?_)
  rcases hp with ⟨a_1, b_2, rfl, rfl, rfl, ha_3, hb_4⟩ | ⟨rfl, ho_5⟩
  ·
    refine lv_if_ne (tgt := 16) hx hb dX9_nearest_11 (by decide) (fun c11 => ?_) (fun c11 => ?_)
    ·
      refine lv_iload_n hx hb dX9_nearest_16 rfl (lv_at hl 2 rfl) ?_
      refine lv_iload_n hx hb dX9_nearest_17 rfl (lv_at hl 1 rfl) ?_
      refine lv_isub hx hb dX9_nearest_18 ?_
      refine lv_topi (fun z_6 ez_6 => ?_)
      try have tz_6 : z_6.toInt = ((b_2 : Nat) : Int) - ((a_1 : Nat) : Int) := by rw [ez_6]; exact my_subI (nI_toInt (by omega)) (nI_toInt (by omega)) (by omega) (by omega)
      refine lv_iconst (v := 2) hx hb dX9_nearest_19 (by decide +kernel) ?_
      refine lv_icmp_ge (tgt := 26) hx hb dX9_nearest_20 (by decide) (fun c20 => ?_) (fun c20 => ?_)
      ·
        have d20 : z_6.toInt ≥ (2 : Int) := my_ge c20 rfl (by decide +kernel)
        refine lv_aload_n hx hb dX9_nearest_26 rfl (lv_at hl 0 rfl) ?_
        refine lv_iload_n hx hb dX9_nearest_27 rfl (lv_at hl 1 rfl) ?_
        refine lv_iload_n hx hb dX9_nearest_28 rfl (lv_at hl 2 rfl) ?_
        refine my_goVS (wc := (wl_k_X9_sorts cI cJ cK m0 a_row a_tape a_number a_read a_readBits a_stands a_parted a_bitsWere a_stood a_chosen a_bestChosen a_often a_sorted a_risen a_risenWays 0 (nI m_told) (nI m_taped) (nI m_at) (nI m_to) (nI m_many) (nI m_readMany) m_fewest (nI m_size) mn mf mg)) hP hD hS hA [0, 1, 2, 3] rfl [some 0, some 1, some 2, some 3] (by decide +kernel) (my_cV (As := [.int (nI a_1), .int (nI b_2)]) (rest := []) (ci := 9) (wc := (wl_k_X9_sorts cI cJ cK m0 a_row a_tape a_number a_read a_readBits a_stands a_parted a_bitsWere a_stood a_chosen a_bestChosen a_often a_sorted a_risen a_risenWays 0 (nI m_told) (nI m_taped) (nI m_at) (nI m_to) (nI m_many) (nI m_readMany) m_fewest (nI m_size) mn mf mg)) ⟨hx, hb, hml, hown, hts⟩ (cwV 2 hts gX9_nearest_X9_sorts rfl rfl rfl (by decide +kernel) ⟨Nat.le_of_ble_eq_true rfl, Nat.le_of_ble_eq_true rfl⟩) hN hK hP hD [0, 1, 2, 3] rfl (by decide) rfl 0 rfl rfl rfl rfl hl.1 rfl (Nat.le_of_ble_eq_true rfl) dX9_nearest_29 ⟨Nat.le_of_ble_eq_true rfl, Nat.le_of_ble_eq_true rfl⟩  ((k_X9_sorts l D cI cJ cK m0 a_row a_tape a_number a_read a_readBits a_stands a_parted a_bitsWere a_stood a_chosen a_bestChosen a_often a_sorted a_risen a_risenWays (0 : Int32) m_told m_taped m_at m_to m_many m_readMany m_fewest m_size mn mf mg a_1 b_2 (by first | assumption | omega | decide +kernel) (by first | assumption | omega | decide +kernel) (by first | assumption | omega | decide +kernel) (by first | assumption | omega | decide +kernel) (by first | assumption | omega | decide +kernel) (by first | assumption | omega | decide +kernel) (by first | assumption | omega | decide +kernel) hR_mn hR_mg (by first | assumption | omega | decide +kernel) (by first | assumption | omega | decide +kernel)) _)) (fun u H locs hp hPD hS => ?_)
        obtain ⟨m_size_7, mf_8, mg_9, rfl, hhz_m_size_10, hR_mg_9, hcs, hsz, hso, hsv⟩ := hp
        obtain ⟨hP, hD⟩ := hPD rfl
        have hP : va_P D vwCl (wl_k_X9_nearest cI cJ cK m0 a_row a_tape a_number a_read a_readBits a_stands a_parted a_bitsWere a_stood a_chosen a_bestChosen a_often a_sorted a_risen a_risenWays 0 (nI m_told) (nI m_taped) (nI m_at) (nI m_to) (nI m_many) (nI m_readMany) m_fewest (nI m_size_7) mn mf_8 mg_9 mr) H := hP
        have hD : va_D A (wl_k_X9_nearest cI cJ cK m0 a_row a_tape a_number a_read a_readBits a_stands a_parted a_bitsWere a_stood a_chosen a_bestChosen a_often a_sorted a_risen a_risenWays 0 (nI m_told) (nI m_taped) (nI m_at) (nI m_to) (nI m_many) (nI m_readMany) m_fewest (nI m_size_7) mn mf_8 mg_9 mr) := hD
        refine lv_sipush (v := 256) hx hb dX9_nearest_32 (by decide +kernel) ?_
        refine lv_istore_n (lv' := [(3, .int 256), (0, .ref m0), (1, .int (nI a_1)), (2, .int (nI b_2))]) hx hb dX9_nearest_35 rfl hl (by decide) rfl (fun ls hl => ?_)
        refine lv_iconst (v := 0) hx hb dX9_nearest_36 (by decide +kernel) ?_
        refine lv_istore (lv' := [(4, .int 0), (3, .int 256), (0, .ref m0), (1, .int (nI a_1)), (2, .int (nI b_2))]) hx hb dX9_nearest_37 hl (by decide) rfl (fun ls hl => ?_)
        refine lv_iconst (v := 0) hx hb dX9_nearest_39 (by decide +kernel) ?_
        refine lv_istore (lv' := [(5, .int 0), (4, .int 0), (3, .int 256), (0, .ref m0), (1, .int (nI a_1)), (2, .int (nI b_2))]) hx hb dX9_nearest_40 hl (by decide) rfl (fun ls hl => ?_)
        refine lv_iconst (v := 0) hx hb dX9_nearest_42 (by decide +kernel) ?_
        refine lv_istore (lv' := [(6, .int 0), (5, .int 0), (4, .int 0), (3, .int 256), (0, .ref m0), (1, .int (nI a_1)), (2, .int (nI b_2))]) hx hb dX9_nearest_43 hl (by decide) rfl (fun ls hl => ?_)
        have loop45 : ∀ (n9 : Nat) (k : Nat) (y5_45 : Int32) (y4_45 : Int32) (t : Nat), 64 - k < n9 → (t ≤ 256) → (k ≤ 64) → (k ≤ b_2 - a_1) → (nrX mg_9 (b_2 - a_1) t k 0) → ∀ (H : Heap) (locs : List Loc) (ls : Array Slot), va_P D vwCl (wl_k_X9_nearest cI cJ cK m0 a_row a_tape a_number a_read a_readBits a_stands a_parted a_bitsWere a_stood a_chosen a_bestChosen a_often a_sorted a_risen a_risenWays 0 (nI m_told) (nI m_taped) (nI m_at) (nI m_to) (nI m_many) (nI m_readMany) m_fewest (nI m_size_7) mn mf_8 mg_9 mr) H → va_D A (wl_k_X9_nearest cI cJ cK m0 a_row a_tape a_number a_read a_readBits a_stands a_parted a_bitsWere a_stood a_chosen a_bestChosen a_often a_sorted a_risen a_risenWays 0 (nI m_told) (nI m_taped) (nI m_at) (nI m_to) (nI m_many) (nI m_readMany) m_fewest (nI m_size_7) mn mf_8 mg_9 mr) → va_S A s.heap H locs → lv_has ls 9 [(6, .int (nI k)), (5, .int y5_45), (4, .int y4_45), (3, .int (nI t)), (0, .ref m0), (1, .int (nI a_1)), (2, .int (nI b_2))] → W p l e ({ frames := 2, cells := 0, slots := 0, locals := 120 } : Room) s m [.ref m0, .int (nI a_1), .int (nI b_2)].toArray below meth c H locs 0 0 (MQ below (va_Qi (fun (r : Int32) (u : va_W) => (∃ (m_thrown' : Int32), u = (wl_k_X9_nearest cI cJ cK m0 a_row a_tape a_number a_read a_readBits a_stands a_parted a_bitsWere a_stood a_chosen a_bestChosen a_often a_sorted a_risen a_risenWays m_thrown' (nI m_told) (nI m_taped) (nI m_at) (nI m_to) (nI m_many) (nI m_readMany) m_fewest (nI m_size) mn mf mg mr) ∧ r = (-1) ∧ ((nI a_1).toInt < 0 ∨ (nI b_2).toInt < (nI a_1).toInt ∨ m_many < (nI b_2).toInt)) ∨ (∃ (m_thrown' : Int32), u = (wl_k_X9_nearest cI cJ cK m0 a_row a_tape a_number a_read a_readBits a_stands a_parted a_bitsWere a_stood a_chosen a_bestChosen a_often a_sorted a_risen a_risenWays m_thrown' (nI m_told) (nI m_taped) (nI m_at) (nI m_to) (nI m_many) (nI m_readMany) m_fewest (nI m_size) mn mf mg mr) ∧ r = (-2) ∧ 0 ≤ (nI a_1).toInt ∧ (nI a_1).toInt ≤ (nI b_2).toInt ∧ (nI b_2).toInt ≤ m_many ∧ (nI b_2).toInt - (nI a_1).toInt < 2) ∨ (∃ (t' : Nat) (m_thrown' : Int32) (m_told' : Nat) (m_size' : Nat) (mf' : Nat → Int32) (mg' : Nat → Int32) (mr' : Nat → Int64), u = (wl_k_X9_nearest cI cJ cK m0 a_row a_tape a_number a_read a_readBits a_stands a_parted a_bitsWere a_stood a_chosen a_bestChosen a_often a_sorted a_risen a_risenWays m_thrown' (nI m_told') (nI m_taped) (nI m_at) (nI m_to) (nI m_many) (nI m_readMany) m_fewest (nI m_size') mn mf' mg' mr') ∧ r = nI t' ∧ m_told' ≤ 64 ∧ m_size' ≤ 64 ∧ RB 0 255 mg' ∧ 0 ≤ (nI a_1).toInt ∧ (nI a_1).toInt ≤ (nI b_2).toInt ∧ (nI b_2).toInt ≤ m_many ∧ 2 ≤ (nI b_2).toInt - (nI a_1).toInt ∧ nsP mn (nI a_1).toInt.toNat (nI b_2).toInt.toNat t' ∧ m_told' = 2)) (my_B D (tyIJ cI cJ cK) A) A) [.ref m0, .int (nI a_1), .int (nI b_2)].toArray s 0 0 A) (F0 m 45 ls []) := by
          intro n9
          induction n9 with
          | zero =>
            intro k y5_45 y4_45 t hn9
            exact absurd hn9 (Nat.not_lt_zero _)
          | succ n9 ih45 =>
            intro k y5_45 y4_45 t hn9 hk_t hk_k hkb hnx H locs ls hP hD hS hl
            refine lv_iload hx hb dX9_nearest_45 (lv_at hl 0 rfl) ?_
            refine lv_aload_n hx hb dX9_nearest_47 rfl (lv_at hl 4 rfl) ?_
            refine va_get (ci := 9) (v := .int (nI m_size_7)) (C := RX9) (T := TX9) (N := 24) hx hb hts hi9 hown hK hP 0 rfl rfl 21 (by decide) fl172 (fun _ h9 => h9) rfl dX9_nearest_48 ?_
            refine lv_icmp_ge (tgt := 125) hx hb dX9_nearest_51 (by decide) (fun c51 => ?_) (fun c51 => ?_)
            ·
              have d51 : ((k : Nat) : Int) ≥ ((m_size_7 : Nat) : Int) := my_ge c51 (nI_toInt (by omega)) (nI_toInt (by omega))
              refine lv_aload_n hx hb dX9_nearest_125 rfl (lv_at hl 4 rfl) ?_
              refine lv_iconst (v := 0) hx hb dX9_nearest_126 (by decide +kernel) ?_
              refine va_put (ci := 9) (v := .int 0) (ty := (.int)) (C := RX9) (T := TX9) (N := 24) hx hb hts hi9 tyX9 tyX9_ok nmX9 hown hK hP hD hS 0 rfl rfl 1 (by decide) fl11 (fun _ h9 => h9) rfl (by decide +kernel) rfl rfl (Nat.le_of_ble_eq_true rfl) dX9_nearest_127 (fun H locs hP hD hS => ?_)
              have hP : va_P D vwCl (wl_k_X9_nearest cI cJ cK m0 a_row a_tape a_number a_read a_readBits a_stands a_parted a_bitsWere a_stood a_chosen a_bestChosen a_often a_sorted a_risen a_risenWays 0 0 (nI m_taped) (nI m_at) (nI m_to) (nI m_many) (nI m_readMany) m_fewest (nI m_size_7) mn mf_8 mg_9 mr) H := hP
              have hD : va_D A (wl_k_X9_nearest cI cJ cK m0 a_row a_tape a_number a_read a_readBits a_stands a_parted a_bitsWere a_stood a_chosen a_bestChosen a_often a_sorted a_risen a_risenWays 0 0 (nI m_taped) (nI m_at) (nI m_to) (nI m_many) (nI m_readMany) m_fewest (nI m_size_7) mn mf_8 mg_9 mr) := hD
              refine lv_aload_n hx hb dX9_nearest_130 rfl (lv_at hl 4 rfl) ?_
              refine lv_iload hx hb dX9_nearest_131 (lv_at hl 2 rfl) ?_
              refine lv_i2l (v := y4_45.toInt64) hx hb dX9_nearest_133 rfl ?_
              refine my_goVS (wc := (wl_k_X9_enters cI cJ cK m0 a_row a_tape a_number a_read a_readBits a_stands a_parted a_bitsWere a_stood a_chosen a_bestChosen a_often a_sorted a_risen a_risenWays 0 0 (nI m_taped) (nI m_at) (nI m_to) (nI m_many) (nI m_readMany) m_fewest (nI m_size_7) mr)) hP hD hS hA [0, 4] rfl [some 0, none, none, none, some 1] (by decide +kernel) (my_cV (As := [.long y4_45.toInt64]) (rest := []) (ci := 9) (wc := (wl_k_X9_enters cI cJ cK m0 a_row a_tape a_number a_read a_readBits a_stands a_parted a_bitsWere a_stood a_chosen a_bestChosen a_often a_sorted a_risen a_risenWays 0 0 (nI m_taped) (nI m_at) (nI m_to) (nI m_many) (nI m_readMany) m_fewest (nI m_size_7) mr)) ⟨hx, hb, hml, hown, hts⟩ (cwV 1 hts gX9_nearest_X9_enters rfl rfl rfl (by decide +kernel) ⟨Nat.le_of_ble_eq_true rfl, Nat.le_of_ble_eq_true rfl⟩) hN hK hP hD [0, 4] rfl (by decide) rfl 0 rfl rfl rfl rfl hl.1 rfl (Nat.le_of_ble_eq_true rfl) dX9_nearest_134 ⟨Nat.le_of_ble_eq_true rfl, Nat.le_of_ble_eq_true rfl⟩  ((k_X9_enters l D cI cJ cK m0 a_row a_tape a_number a_read a_readBits a_stands a_parted a_bitsWere a_stood a_chosen a_bestChosen a_often a_sorted a_risen a_risenWays (0 : Int32) 0 m_taped m_at m_to m_many m_readMany m_fewest m_size_7 mr y4_45.toInt64 (by first | assumption | omega | decide +kernel) (by first | assumption | omega | decide +kernel) (by first | assumption | omega | decide +kernel) (by first | assumption | omega | decide +kernel) (by first | assumption | omega | decide +kernel) (by first | assumption | omega | decide +kernel) (by first | assumption | omega | decide +kernel) (by first | assumption | omega | decide +kernel)) _)) (fun u H locs hp hPD hS => ?_)
              obtain ⟨m_told_11, mr_12, rfl, hhz_m_told_13, ht_14⟩ := hp
              obtain ⟨hP, hD⟩ := hPD rfl
              have hP : va_P D vwCl (wl_k_X9_nearest cI cJ cK m0 a_row a_tape a_number a_read a_readBits a_stands a_parted a_bitsWere a_stood a_chosen a_bestChosen a_often a_sorted a_risen a_risenWays 0 (nI m_told_11) (nI m_taped) (nI m_at) (nI m_to) (nI m_many) (nI m_readMany) m_fewest (nI m_size_7) mn mf_8 mg_9 mr_12) H := hP
              have hD : va_D A (wl_k_X9_nearest cI cJ cK m0 a_row a_tape a_number a_read a_readBits a_stands a_parted a_bitsWere a_stood a_chosen a_bestChosen a_often a_sorted a_risen a_risenWays 0 (nI m_told_11) (nI m_taped) (nI m_at) (nI m_to) (nI m_many) (nI m_readMany) m_fewest (nI m_size_7) mn mf_8 mg_9 mr_12) := hD
              refine lv_aload_n hx hb dX9_nearest_137 rfl (lv_at hl 4 rfl) ?_
              refine lv_iload hx hb dX9_nearest_138 (lv_at hl 1 rfl) ?_
              refine lv_i2l (v := y5_45.toInt64) hx hb dX9_nearest_140 rfl ?_
              refine my_goVS (wc := (wl_k_X9_enters cI cJ cK m0 a_row a_tape a_number a_read a_readBits a_stands a_parted a_bitsWere a_stood a_chosen a_bestChosen a_often a_sorted a_risen a_risenWays 0 (nI m_told_11) (nI m_taped) (nI m_at) (nI m_to) (nI m_many) (nI m_readMany) m_fewest (nI m_size_7) mr_12)) hP hD hS hA [0, 4] rfl [some 0, none, none, none, some 1] (by decide +kernel) (my_cV (As := [.long y5_45.toInt64]) (rest := []) (ci := 9) (wc := (wl_k_X9_enters cI cJ cK m0 a_row a_tape a_number a_read a_readBits a_stands a_parted a_bitsWere a_stood a_chosen a_bestChosen a_often a_sorted a_risen a_risenWays 0 (nI m_told_11) (nI m_taped) (nI m_at) (nI m_to) (nI m_many) (nI m_readMany) m_fewest (nI m_size_7) mr_12)) ⟨hx, hb, hml, hown, hts⟩ (cwV 1 hts gX9_nearest_X9_enters rfl rfl rfl (by decide +kernel) ⟨Nat.le_of_ble_eq_true rfl, Nat.le_of_ble_eq_true rfl⟩) hN hK hP hD [0, 4] rfl (by decide) rfl 0 rfl rfl rfl rfl hl.1 rfl (Nat.le_of_ble_eq_true rfl) dX9_nearest_141 ⟨Nat.le_of_ble_eq_true rfl, Nat.le_of_ble_eq_true rfl⟩  ((k_X9_enters l D cI cJ cK m0 a_row a_tape a_number a_read a_readBits a_stands a_parted a_bitsWere a_stood a_chosen a_bestChosen a_often a_sorted a_risen a_risenWays (0 : Int32) m_told_11 m_taped m_at m_to m_many m_readMany m_fewest m_size_7 mr_12 y5_45.toInt64 (by first | assumption | omega | decide +kernel) (by first | assumption | omega | decide +kernel) (by first | assumption | omega | decide +kernel) (by first | assumption | omega | decide +kernel) (by first | assumption | omega | decide +kernel) (by first | assumption | omega | decide +kernel) (by first | assumption | omega | decide +kernel) (by first | assumption | omega | decide +kernel)) _)) (fun u H locs hp hPD hS => ?_)
              obtain ⟨m_told_15, mr_16, rfl, hhz_m_told_17, ht_18⟩ := hp
              obtain ⟨hP, hD⟩ := hPD rfl
              have hP : va_P D vwCl (wl_k_X9_nearest cI cJ cK m0 a_row a_tape a_number a_read a_readBits a_stands a_parted a_bitsWere a_stood a_chosen a_bestChosen a_often a_sorted a_risen a_risenWays 0 (nI m_told_15) (nI m_taped) (nI m_at) (nI m_to) (nI m_many) (nI m_readMany) m_fewest (nI m_size_7) mn mf_8 mg_9 mr_16) H := hP
              have hD : va_D A (wl_k_X9_nearest cI cJ cK m0 a_row a_tape a_number a_read a_readBits a_stands a_parted a_bitsWere a_stood a_chosen a_bestChosen a_often a_sorted a_risen a_risenWays 0 (nI m_told_15) (nI m_taped) (nI m_at) (nI m_to) (nI m_many) (nI m_readMany) m_fewest (nI m_size_7) mn mf_8 mg_9 mr_16) := hD
              refine lv_iload_n hx hb dX9_nearest_144 rfl (lv_at hl 3 rfl) ?_
              have hsI_l9 : (nI a_1).toInt = ((a_1 : Nat) : Int) := nI_toInt (by omega)
              have hsN_l9 : (nI a_1).toInt.toNat = a_1 := nIt (by omega)
              have hsI_r9 : (nI b_2).toInt = ((b_2 : Nat) : Int) := nI_toInt (by omega)
              have hsN_r9 : (nI b_2).toInt.toNat = b_2 := nIt (by omega)
              exact my_retI hx hb hr hlocks hK hS (wl_k_X9_nearest cI cJ cK m0 a_row a_tape a_number a_read a_readBits a_stands a_parted a_bitsWere a_stood a_chosen a_bestChosen a_often a_sorted a_risen a_risenWays 0 (nI m_told_15) (nI m_taped) (nI m_at) (nI m_to) (nI m_many) (nI m_readMany) m_fewest (nI m_size_7) mn mf_8 mg_9 mr_16) hP hD (Or.inr (Or.inr (⟨t, 0, m_told_15, m_size_7, mf_8, mg_9, mr_16, rfl, rfl, (by first | assumption | omega | trivial | decide +kernel), (by first | assumption | omega | trivial | decide +kernel), hR_mg_9, (by first | assumption | omega | trivial | decide +kernel), (by first | assumption | omega | trivial | decide +kernel), (by first | assumption | omega | trivial | decide +kernel), (by first | assumption | omega | trivial | decide +kernel), (by rw [hsN_l9, hsN_r9]; exact ns_r (by assumption) hsv hnx (by omega) (by omega)), (by first | assumption | omega | trivial | decide +kernel)⟩))) dX9_nearest_145
            ·
              have d51 : ((k : Nat) : Int) < ((m_size_7 : Nat) : Int) := my_nge c51 (nI_toInt (by omega)) (nI_toInt (by omega))
              refine lv_iload hx hb dX9_nearest_54 (lv_at hl 0 rfl) ?_
              refine lv_iconst (v := 1) hx hb dX9_nearest_56 (by decide +kernel) ?_
              refine lv_iadd hx hb dX9_nearest_57 ?_
              refine my_eqi (y := nI (k + 1)) (my_addN k 1) ?_
              refine lv_istore (lv' := [(7, .int (nI (k + 1))), (6, .int (nI k)), (5, .int y5_45), (4, .int y4_45), (3, .int (nI t)), (0, .ref m0), (1, .int (nI a_1)), (2, .int (nI b_2))]) hx hb dX9_nearest_58 hl (by decide) rfl (fun ls hl => ?_)
              have loop60 : ∀ (n9 : Nat) (j : Nat) (y5_60 : Int32) (y4_60 : Int32) (t2 : Nat), 64 - j < n9 → (t2 ≤ 256) → (j ≤ 64) → (k < j) → (j ≤ b_2 - a_1) → (nrX mg_9 (b_2 - a_1) t2 k j) → ∀ (H : Heap) (locs : List Loc) (ls : Array Slot), va_P D vwCl (wl_k_X9_nearest cI cJ cK m0 a_row a_tape a_number a_read a_readBits a_stands a_parted a_bitsWere a_stood a_chosen a_bestChosen a_often a_sorted a_risen a_risenWays 0 (nI m_told) (nI m_taped) (nI m_at) (nI m_to) (nI m_many) (nI m_readMany) m_fewest (nI m_size_7) mn mf_8 mg_9 mr) H → va_D A (wl_k_X9_nearest cI cJ cK m0 a_row a_tape a_number a_read a_readBits a_stands a_parted a_bitsWere a_stood a_chosen a_bestChosen a_often a_sorted a_risen a_risenWays 0 (nI m_told) (nI m_taped) (nI m_at) (nI m_to) (nI m_many) (nI m_readMany) m_fewest (nI m_size_7) mn mf_8 mg_9 mr) → va_S A s.heap H locs → lv_has ls 9 [(7, .int (nI j)), (6, .int (nI k)), (5, .int y5_60), (4, .int y4_60), (3, .int (nI t2)), (0, .ref m0), (1, .int (nI a_1)), (2, .int (nI b_2))] → W p l e ({ frames := 2, cells := 0, slots := 0, locals := 120 } : Room) s m [.ref m0, .int (nI a_1), .int (nI b_2)].toArray below meth c H locs 0 0 (MQ below (va_Qi (fun (r : Int32) (u : va_W) => (∃ (m_thrown' : Int32), u = (wl_k_X9_nearest cI cJ cK m0 a_row a_tape a_number a_read a_readBits a_stands a_parted a_bitsWere a_stood a_chosen a_bestChosen a_often a_sorted a_risen a_risenWays m_thrown' (nI m_told) (nI m_taped) (nI m_at) (nI m_to) (nI m_many) (nI m_readMany) m_fewest (nI m_size) mn mf mg mr) ∧ r = (-1) ∧ ((nI a_1).toInt < 0 ∨ (nI b_2).toInt < (nI a_1).toInt ∨ m_many < (nI b_2).toInt)) ∨ (∃ (m_thrown' : Int32), u = (wl_k_X9_nearest cI cJ cK m0 a_row a_tape a_number a_read a_readBits a_stands a_parted a_bitsWere a_stood a_chosen a_bestChosen a_often a_sorted a_risen a_risenWays m_thrown' (nI m_told) (nI m_taped) (nI m_at) (nI m_to) (nI m_many) (nI m_readMany) m_fewest (nI m_size) mn mf mg mr) ∧ r = (-2) ∧ 0 ≤ (nI a_1).toInt ∧ (nI a_1).toInt ≤ (nI b_2).toInt ∧ (nI b_2).toInt ≤ m_many ∧ (nI b_2).toInt - (nI a_1).toInt < 2) ∨ (∃ (t' : Nat) (m_thrown' : Int32) (m_told' : Nat) (m_size' : Nat) (mf' : Nat → Int32) (mg' : Nat → Int32) (mr' : Nat → Int64), u = (wl_k_X9_nearest cI cJ cK m0 a_row a_tape a_number a_read a_readBits a_stands a_parted a_bitsWere a_stood a_chosen a_bestChosen a_often a_sorted a_risen a_risenWays m_thrown' (nI m_told') (nI m_taped) (nI m_at) (nI m_to) (nI m_many) (nI m_readMany) m_fewest (nI m_size') mn mf' mg' mr') ∧ r = nI t' ∧ m_told' ≤ 64 ∧ m_size' ≤ 64 ∧ RB 0 255 mg' ∧ 0 ≤ (nI a_1).toInt ∧ (nI a_1).toInt ≤ (nI b_2).toInt ∧ (nI b_2).toInt ≤ m_many ∧ 2 ≤ (nI b_2).toInt - (nI a_1).toInt ∧ nsP mn (nI a_1).toInt.toNat (nI b_2).toInt.toNat t' ∧ m_told' = 2)) (my_B D (tyIJ cI cJ cK) A) A) [.ref m0, .int (nI a_1), .int (nI b_2)].toArray s 0 0 A) (F0 m 60 ls []) := by
                intro n9
                induction n9 with
                | zero =>
                  intro j y5_60 y4_60 t2 hn9
                  exact absurd hn9 (Nat.not_lt_zero _)
                | succ n9 ih60 =>
                  intro j y5_60 y4_60 t2 hn9 hk_t2 hk_j hkj hjb hny H locs ls hP hD hS hl
                  refine lv_iload hx hb dX9_nearest_60 (lv_at hl 0 rfl) ?_
                  refine lv_aload_n hx hb dX9_nearest_62 rfl (lv_at hl 5 rfl) ?_
                  refine va_get (ci := 9) (v := .int (nI m_size_7)) (C := RX9) (T := TX9) (N := 24) hx hb hts hi9 hown hK hP 0 rfl rfl 21 (by decide) fl172 (fun _ h9 => h9) rfl dX9_nearest_63 ?_
                  refine lv_icmp_ge (tgt := 119) hx hb dX9_nearest_66 (by decide) (fun c66 => ?_) (fun c66 => ?_)
                  ·
                    have d66 : ((j : Nat) : Int) ≥ ((m_size_7 : Nat) : Int) := my_ge c66 (nI_toInt (by omega)) (nI_toInt (by omega))
                    refine lv_iinc (v := nI (k + 1)) (lv' := [(6, .int (nI (k + 1))), (7, .int (nI j)), (5, .int y5_60), (4, .int y4_60), (3, .int (nI t2)), (0, .ref m0), (1, .int (nI a_1)), (2, .int (nI b_2))]) hx hb dX9_nearest_119 hl (k := 1) rfl (my_incN k 1 (by decide +kernel)) (by decide) rfl (fun ls hl => ?_)
                    refine lv_goto (tgt := 45) hx hb dX9_nearest_122 (by decide) ?_
                    exact ih45  (k + 1) y5_60 y4_60 t2 (by omega) (by first | assumption | omega | decide +kernel) (by first | assumption | omega | decide +kernel) (by first | assumption | omega | decide +kernel) (nx9_out hny (by omega)) _ _ ls hP hD hS (lv_sub hl [0, 2, 3, 4, 5, 6, 7] rfl)
                  ·
                    have d66 : ((j : Nat) : Int) < ((m_size_7 : Nat) : Int) := my_nge c66 (nI_toInt (by omega)) (nI_toInt (by omega))
                    refine lv_aload_n hx hb dX9_nearest_69 rfl (lv_at hl 5 rfl) ?_
                    refine va_get (ci := 9) (v := .ref a_sorted) (C := RX9) (T := TX9) (N := 24) hx hb hts hi9 hown hK hP 0 rfl rfl 20 (by decide) fl79 (fun _ h9 => h9) rfl dX9_nearest_70 ?_
                    refine lv_iload hx hb dX9_nearest_73 (lv_at hl 1 rfl) ?_
                    refine va_iald hx hb hK hP 3 0 rfl rfl (vp_in_nI (by omega) (by omega)) dX9_nearest_75 ?_
                    refine my_eqi (y := mg_9 k) (congrArg mg_9 (nI_clamp (by omega))) ?_
                    have hb_19 := hR_mg_9 k
                    obtain ⟨w_20, ew_20, hw_20⟩ : ∃ w : Nat, (mg_9 k) = nI w ∧ (w : Int) = (mg_9 k : Int32).toInt := my_natE (by omega)
                    refine my_eqi (y := nI w_20) ew_20 ?_
                    refine lv_aload_n hx hb dX9_nearest_76 rfl (lv_at hl 5 rfl) ?_
                    refine va_get (ci := 9) (v := .ref a_sorted) (C := RX9) (T := TX9) (N := 24) hx hb hts hi9 hown hK hP 0 rfl rfl 20 (by decide) fl79 (fun _ h9 => h9) rfl dX9_nearest_77 ?_
                    refine lv_iload hx hb dX9_nearest_80 (lv_at hl 0 rfl) ?_
                    refine va_iald hx hb hK hP 3 0 rfl rfl (vp_in_nI (by omega) (by omega)) dX9_nearest_82 ?_
                    refine my_eqi (y := mg_9 j) (congrArg mg_9 (nI_clamp (by omega))) ?_
                    have hb_21 := hR_mg_9 j
                    obtain ⟨w_22, ew_22, hw_22⟩ : ∃ w : Nat, (mg_9 j) = nI w ∧ (w : Int) = (mg_9 j : Int32).toInt := my_natE (by omega)
                    refine my_eqi (y := nI w_22) ew_22 ?_
                    refine lv_ixor hx hb dX9_nearest_83 ?_
                    refine my_eqi (y := nI (w_20 ^^^ w_22)) (fb_xorI _ _) ?_
                    try have hxl_23 : w_20 ^^^ w_22 < 256 := Nat.xor_lt_two_pow (n := 8) (by omega) (by omega)
                    have hxr : w_20 ^^^ w_22 = xr mg_9 k j := by unfold xr; congr 1 <;> omega
                    refine lv_istore (lv' := [(8, .int (nI (w_20 ^^^ w_22))), (7, .int (nI j)), (6, .int (nI k)), (5, .int y5_60), (4, .int y4_60), (3, .int (nI t2)), (0, .ref m0), (1, .int (nI a_1)), (2, .int (nI b_2))]) hx hb dX9_nearest_84 hl (by decide) rfl (fun ls hl => ?_)
                    refine lv_iload hx hb dX9_nearest_86 (lv_at hl 0 rfl) ?_
                    refine lv_iload_n hx hb dX9_nearest_88 rfl (lv_at hl 5 rfl) ?_
                    refine lv_icmp_ge (tgt := 113) hx hb dX9_nearest_89 (by decide) (fun c89 => ?_) (fun c89 => ?_)
                    ·
                      have d89 : ((w_20 ^^^ w_22 : Nat) : Int) ≥ ((t2 : Nat) : Int) := my_ge c89 (nI_toInt (by omega)) (nI_toInt (by omega))
                      refine lv_iinc (v := nI (j + 1)) (lv' := [(7, .int (nI (j + 1))), (8, .int (nI (w_20 ^^^ w_22))), (6, .int (nI k)), (5, .int y5_60), (4, .int y4_60), (3, .int (nI t2)), (0, .ref m0), (1, .int (nI a_1)), (2, .int (nI b_2))]) hx hb dX9_nearest_113 hl (k := 1) rfl (my_incN j 1 (by decide +kernel)) (by decide) rfl (fun ls hl => ?_)
                      refine lv_goto (tgt := 60) hx hb dX9_nearest_116 (by decide) ?_
                      exact ih60  (j + 1) y5_60 y4_60 t2 (by omega) (by first | assumption | omega | decide +kernel) (by first | assumption | omega | decide +kernel) (by first | assumption | omega | decide +kernel) (by first | assumption | omega | decide +kernel) (by first | exact nx9_less hny (by omega) (by omega) hxr (by omega) | exact nx9_more hny hxr (by omega)) _ _ ls hP hD hS (lv_sub hl [0, 2, 3, 4, 5, 6, 7, 8] rfl)
                    ·
                      have d89 : ((w_20 ^^^ w_22 : Nat) : Int) < ((t2 : Nat) : Int) := my_nge c89 (nI_toInt (by omega)) (nI_toInt (by omega))
                      refine lv_iload hx hb dX9_nearest_92 (lv_at hl 0 rfl) ?_
                      refine lv_istore_n (lv' := [(3, .int (nI (w_20 ^^^ w_22))), (8, .int (nI (w_20 ^^^ w_22))), (7, .int (nI j)), (6, .int (nI k)), (5, .int y5_60), (4, .int y4_60), (0, .ref m0), (1, .int (nI a_1)), (2, .int (nI b_2))]) hx hb dX9_nearest_94 rfl hl (by decide) rfl (fun ls hl => ?_)
                      refine lv_aload_n hx hb dX9_nearest_95 rfl (lv_at hl 6 rfl) ?_
                      refine va_get (ci := 9) (v := .ref a_sorted) (C := RX9) (T := TX9) (N := 24) hx hb hts hi9 hown hK hP 0 rfl rfl 20 (by decide) fl79 (fun _ h9 => h9) rfl dX9_nearest_96 ?_
                      refine lv_iload hx hb dX9_nearest_99 (lv_at hl 3 rfl) ?_
                      refine va_iald hx hb hK hP 3 0 rfl rfl (vp_in_nI (by omega) (by omega)) dX9_nearest_101 ?_
                      refine my_eqi (y := mg_9 k) (congrArg mg_9 (nI_clamp (by omega))) ?_
                      have hb_24 := hR_mg_9 k
                      refine lv_istore (lv' := [(4, .int (mg_9 k)), (3, .int (nI (w_20 ^^^ w_22))), (8, .int (nI (w_20 ^^^ w_22))), (7, .int (nI j)), (6, .int (nI k)), (5, .int y5_60), (0, .ref m0), (1, .int (nI a_1)), (2, .int (nI b_2))]) hx hb dX9_nearest_102 hl (by decide) rfl (fun ls hl => ?_)
                      refine lv_aload_n hx hb dX9_nearest_104 rfl (lv_at hl 6 rfl) ?_
                      refine va_get (ci := 9) (v := .ref a_sorted) (C := RX9) (T := TX9) (N := 24) hx hb hts hi9 hown hK hP 0 rfl rfl 20 (by decide) fl79 (fun _ h9 => h9) rfl dX9_nearest_105 ?_
                      refine lv_iload hx hb dX9_nearest_108 (lv_at hl 3 rfl) ?_
                      refine va_iald hx hb hK hP 3 0 rfl rfl (vp_in_nI (by omega) (by omega)) dX9_nearest_110 ?_
                      refine my_eqi (y := mg_9 j) (congrArg mg_9 (nI_clamp (by omega))) ?_
                      have hb_25 := hR_mg_9 j
                      refine lv_istore (lv' := [(5, .int (mg_9 j)), (4, .int (mg_9 k)), (3, .int (nI (w_20 ^^^ w_22))), (8, .int (nI (w_20 ^^^ w_22))), (7, .int (nI j)), (6, .int (nI k)), (0, .ref m0), (1, .int (nI a_1)), (2, .int (nI b_2))]) hx hb dX9_nearest_111 hl (by decide) rfl (fun ls hl => ?_)
                      refine lv_iinc (v := nI (j + 1)) (lv' := [(7, .int (nI (j + 1))), (5, .int (mg_9 j)), (4, .int (mg_9 k)), (3, .int (nI (w_20 ^^^ w_22))), (8, .int (nI (w_20 ^^^ w_22))), (6, .int (nI k)), (0, .ref m0), (1, .int (nI a_1)), (2, .int (nI b_2))]) hx hb dX9_nearest_113 hl (k := 4) rfl (my_incN j 1 (by decide +kernel)) (by decide) rfl (fun ls hl => ?_)
                      refine lv_goto (tgt := 60) hx hb dX9_nearest_116 (by decide) ?_
                      exact ih60  (j + 1) (mg_9 j) (mg_9 k) (w_20 ^^^ w_22) (by omega) (by first | assumption | omega | decide +kernel) (by first | assumption | omega | decide +kernel) (by first | assumption | omega | decide +kernel) (by first | assumption | omega | decide +kernel) (by first | exact nx9_less hny (by omega) (by omega) hxr (by omega) | exact nx9_more hny hxr (by omega)) _ _ ls hP hD hS (lv_sub hl [0, 5, 1, 2, 3, 6, 7, 8] rfl)
              exact loop60 ((64 - (k + 1)) + 1) (k + 1) y5_45 y4_45 t (Nat.lt_succ_self _) (by first | assumption | omega | decide +kernel) (by first | assumption | omega | decide +kernel) (by first | assumption | omega | decide +kernel) (by first | assumption | omega | decide +kernel) (nx9_in hnx) _ _ ls hP hD hS (lv_sub hl [0, 1, 2, 3, 4, 5, 6, 7] rfl)
        have ec_26 : (0 : Int32).toInt = 0 := by decide +kernel
        have ec_27 : (0 : Int32).toInt = 0 := by decide +kernel
        exact loop45 ((64 - 0) + 1) 0 (0 : Int32) (0 : Int32) 256 (Nat.lt_succ_self _) (by first | assumption | omega | decide +kernel) (by first | assumption | omega | decide +kernel) (by first | assumption | omega | decide +kernel) (nx9_0) _ _ ls hP hD hS (lv_sub hl [0, 1, 2, 3, 4, 5, 6] rfl)
      ·
        have d20 : z_6.toInt < (2 : Int) := my_nge c20 rfl (by decide +kernel)
        refine lv_bipush (v := (-2)) hx hb dX9_nearest_23 (by decide +kernel) ?_
        have hsI_l9 : (nI a_1).toInt = ((a_1 : Nat) : Int) := nI_toInt (by omega)
        have hsN_l9 : (nI a_1).toInt.toNat = a_1 := nIt (by omega)
        have hsI_r9 : (nI b_2).toInt = ((b_2 : Nat) : Int) := nI_toInt (by omega)
        have hsN_r9 : (nI b_2).toInt.toNat = b_2 := nIt (by omega)
        exact my_retI hx hb hr hlocks hK hS (wl_k_X9_nearest cI cJ cK m0 a_row a_tape a_number a_read a_readBits a_stands a_parted a_bitsWere a_stood a_chosen a_bestChosen a_often a_sorted a_risen a_risenWays 0 (nI m_told) (nI m_taped) (nI m_at) (nI m_to) (nI m_many) (nI m_readMany) m_fewest (nI m_size) mn mf mg mr) hP hD (Or.inr (Or.inl ⟨0, rfl, rfl, (by first | assumption | omega | trivial | decide +kernel), (by first | assumption | omega | trivial | decide +kernel), (by first | assumption | omega | trivial | decide +kernel), (by first | assumption | omega | trivial | decide +kernel)⟩)) dX9_nearest_25
    ·
      exact absurd c11 (by decide +kernel)
  ·
    refine lv_if_ne (tgt := 16) hx hb dX9_nearest_11 (by decide) (fun c11 => ?_) (fun c11 => ?_)
    ·
      exact absurd c11 (by decide +kernel)
    ·
      refine lv_iconst (v := (-1)) hx hb dX9_nearest_14 (by decide +kernel) ?_
      exact my_retI hx hb hr hlocks hK hS (wl_k_X9_nearest cI cJ cK m0 a_row a_tape a_number a_read a_readBits a_stands a_parted a_bitsWere a_stood a_chosen a_bestChosen a_often a_sorted a_risen a_risenWays 0 (nI m_told) (nI m_taped) (nI m_at) (nI m_to) (nI m_many) (nI m_readMany) m_fewest (nI m_size) mn mf mg mr) hP hD (Or.inl ⟨0, rfl, rfl, (by first | assumption | omega | trivial | decide +kernel)⟩) dX9_nearest_15
abbrev wl_k_X9_dense (cI cJ cK : ClassId) (m0 : Nat) (a_row : Nat) (a_tape : Nat) (a_number : Nat) (a_read : Nat) (a_readBits : Nat) (a_stands : Nat) (a_parted : Nat) (a_bitsWere : Nat) (a_stood : Nat) (a_chosen : Nat) (a_bestChosen : Nat) (a_often : Nat) (a_sorted : Nat) (a_risen : Nat) (a_risenWays : Nat) (v0_ : Int32) (v1_ : Int32) (v2_ : Int32) (v3_ : Int32) (v4_ : Int32) (v5_ : Int32) (v6_ : Int32) (v7_ : Int32) (v8_ : Int32) (v9_ : Nat → Int32) (v10_ : Nat → Int32) (v11_ : Nat → Int32) (v12_ : Nat → Int64) : va_W := [(m0, .inr (9, [.int v0_, .int v1_, .ref a_row, .ref a_tape, .int v2_, .int v3_, .int v4_, .int v5_, .ref a_number, .ref a_read, .int v6_, .ref a_readBits, .ref a_stands, .ref a_parted, .ref a_bitsWere, .ref a_stood, .ref a_chosen, .ref a_bestChosen, .int v7_, .ref a_often, .ref a_sorted, .int v8_, .ref a_risen, .ref a_risenWays])), (a_number, .inl (cI, 64, .inl v9_)), (a_often, .inl (cI, 512, .inl v10_)), (a_sorted, .inl (cI, 128, .inl v11_)), (a_row, .inl (cJ, 64, .inr (.inl v12_)))]
set_option maxHeartbeats 4000000 in
set_option maxRecDepth 100000 in
theorem k_X9_dense (l : Launch) (D : va_G) (cI cJ cK : ClassId) (m0 : Nat) (a_row : Nat) (a_tape : Nat) (a_number : Nat) (a_read : Nat) (a_readBits : Nat) (a_stands : Nat) (a_parted : Nat) (a_bitsWere : Nat) (a_stood : Nat) (a_chosen : Nat) (a_bestChosen : Nat) (a_often : Nat) (a_sorted : Nat) (a_risen : Nat) (a_risenWays : Nat) (m_thrown : Int32) (m_told : Nat) (m_taped : Nat) (m_at : Nat) (m_to : Nat) (m_many : Nat) (m_readMany : Nat) (m_fewest : Int32) (m_size : Nat) (mn : Nat → Int32) (mf : Nat → Int32) (mg : Nat → Int32) (mr : Nat → Int64) (l9 : Int32) (r9 : Int32) (w9 : Int32) (hz_m_told : m_told ≤ 64) (hz_m_taped : m_taped ≤ 100) (hz_m_at : m_at ≤ 100) (hz_m_to : m_to ≤ 100) (hz_m_many : m_many ≤ 64) (hz_m_readMany : m_readMany ≤ 64) (hz_m_size : m_size ≤ 64) (hR_mn : RB 0 255 mn) (hR_mg : RB 0 255 mg) : ctI l yX9_dense wsX9_dense ({ frames := 2, cells := 0, slots := 0, locals := 120 } : Room) D (tyIJ cI cJ cK) [.ref m0, .int l9, .int r9, .int w9] (wl_k_X9_dense cI cJ cK m0 a_row a_tape a_number a_read a_readBits a_stands a_parted a_bitsWere a_stood a_chosen a_bestChosen a_often a_sorted a_risen a_risenWays m_thrown (nI m_told) (nI m_taped) (nI m_at) (nI m_to) (nI m_many) (nI m_readMany) m_fewest (nI m_size) mn mf mg mr) (fun (r : Int32) (u : va_W) => (∃ (m_thrown' : Int32), u = (wl_k_X9_dense cI cJ cK m0 a_row a_tape a_number a_read a_readBits a_stands a_parted a_bitsWere a_stood a_chosen a_bestChosen a_often a_sorted a_risen a_risenWays m_thrown' (nI m_told) (nI m_taped) (nI m_at) (nI m_to) (nI m_many) (nI m_readMany) m_fewest (nI m_size) mn mf mg mr) ∧ r = (-1) ∧ (l9.toInt < 0 ∨ r9.toInt < l9.toInt ∨ m_many < r9.toInt ∨ w9.toInt < 0 ∨ 255 < w9.toInt)) ∨ (∃ (t' : Nat) (m_thrown' : Int32) (m_told' : Nat) (m_size' : Nat) (mf' : Nat → Int32) (mg' : Nat → Int32) (mr' : Nat → Int64), u = (wl_k_X9_dense cI cJ cK m0 a_row a_tape a_number a_read a_readBits a_stands a_parted a_bitsWere a_stood a_chosen a_bestChosen a_often a_sorted a_risen a_risenWays m_thrown' (nI m_told') (nI m_taped) (nI m_at) (nI m_to) (nI m_many) (nI m_readMany) m_fewest (nI m_size') mn mf' mg' mr') ∧ r = nI t' ∧ m_told' ≤ 64 ∧ m_size' ≤ 64 ∧ RB 0 255 mg' ∧ 0 ≤ l9.toInt ∧ l9.toInt ≤ r9.toInt ∧ r9.toInt ≤ m_many ∧ 0 ≤ w9.toInt ∧ w9.toInt ≤ 255 ∧ dnP (cnF mn l9.toInt.toNat r9.toInt.toNat) w9.toInt.toNat (r9.toInt.toNat - l9.toInt.toNat) t' ∧ m_told' = 1)) := by
  refine ctI.of (cc := cX9_dense) (maxL := 8) (ret := (some .int)) (by decide) rfl (Nat.le_of_ble_eq_true rfl) ?_
  intro p e s m below meth c ls A hx hb hr hts hown hml hlocks hname hA hK hN hP hD hS hl
  have hl : lv_has ls 8 [(0, .ref m0), (1, .int l9), (2, .int r9), (3, .int w9)] := hl
  have hown : s.vm.findClass RX9 = some m.cls := hown
  have hi9 : ∀ w ∈ u_ws RX9 TX9 24, w ∈ wsX9_dense := by decide +kernel
  have fl1 := hts (.fieldLink RX9 1 "PlaneColumnModel" "thrown" "I") (by decide +kernel)
  have fl11 := hts (.fieldLink RX9 11 "PlaneColumnModel" "told" "I") (by decide +kernel)
  have fl172 := hts (.fieldLink RX9 172 "PlaneColumnModel" "size" "I") (by decide +kernel)
  have fl79 := hts (.fieldLink RX9 79 "PlaneColumnModel" "sorted" "[I") (by decide +kernel)
  refine lv_aload_n hx hb dX9_dense_0 rfl (lv_at hl 0 rfl) ?_
  refine lv_iconst (v := 0) hx hb dX9_dense_1 (by decide +kernel) ?_
  refine va_put (ci := 9) (v := .int 0) (ty := (.int)) (C := RX9) (T := TX9) (N := 24) hx hb hts hi9 tyX9 tyX9_ok nmX9 hown hK hP hD hS 0 rfl rfl 0 (by decide) fl1 (fun _ h9 => h9) rfl (by decide +kernel) rfl rfl (Nat.le_of_ble_eq_true rfl) dX9_dense_2 (fun H locs hP hD hS => ?_)
  have hP : va_P D vwCl (wl_k_X9_dense cI cJ cK m0 a_row a_tape a_number a_read a_readBits a_stands a_parted a_bitsWere a_stood a_chosen a_bestChosen a_often a_sorted a_risen a_risenWays 0 (nI m_told) (nI m_taped) (nI m_at) (nI m_to) (nI m_many) (nI m_readMany) m_fewest (nI m_size) mn mf mg mr) H := hP
  have hD : va_D A (wl_k_X9_dense cI cJ cK m0 a_row a_tape a_number a_read a_readBits a_stands a_parted a_bitsWere a_stood a_chosen a_bestChosen a_often a_sorted a_risen a_risenWays 0 (nI m_told) (nI m_taped) (nI m_at) (nI m_to) (nI m_many) (nI m_readMany) m_fewest (nI m_size) mn mf mg mr) := hD
  refine lv_aload_n hx hb dX9_dense_5 rfl (lv_at hl 0 rfl) ?_
  refine lv_iload_n hx hb dX9_dense_6 rfl (lv_at hl 1 rfl) ?_
  refine lv_iload_n hx hb dX9_dense_7 rfl (lv_at hl 2 rfl) ?_
  refine my_gpI (my_pV (As := [.int l9, .int r9]) (rest := []) (ci := 9) ⟨hx, hb, hml, hown, hts⟩ (cwV 2 hts gX9_dense_X9_isSpan rfl rfl rfl (by decide +kernel) ⟨Nat.le_of_ble_eq_true rfl, Nat.le_of_ble_eq_true rfl⟩) hN hK hP [0] rfl 0 rfl rfl rfl rfl hl.1 rfl (Nat.le_of_ble_eq_true rfl) dX9_dense_8 ⟨Nat.le_of_ble_eq_true rfl, Nat.le_of_ble_eq_true rfl⟩  (k_X9_isSpan l D cI cJ cK m0 a_row a_tape a_number a_read a_readBits a_stands a_parted a_bitsWere a_stood a_chosen a_bestChosen a_often a_sorted a_risen a_risenWays (0 : Int32) m_told m_taped m_at m_to m_many m_readMany m_fewest m_size l9 r9 (by first | assumption | omega | decide +kernel) (by first | assumption | omega | decide +kernel) (by first | assumption | omega | decide +kernel) (by first | assumption | omega | decide +kernel) (by first | assumption | omega | decide +kernel) (by first | assumption | omega | decide +kernel) (by first | assumption | omega | decide +kernel))) (fun r hp => ?_)
  rcases hp with ⟨a_1, b_2, rfl, rfl, rfl, ha_3, hb_4⟩ | ⟨rfl, ho_5⟩
  ·
    refine lv_if_eq (tgt := 21) hx hb dX9_dense_11 (by decide) (fun c11 => ?_) (fun c11 => ?_)
    ·
      exact absurd c11 (by decide +kernel)
    ·
      refine lv_iload_n hx hb dX9_dense_14 rfl (lv_at hl 3 rfl) ?_
      refine my_gpI (my_pS (As := [.int w9]) (rest := []) ⟨hx, hb, hml, hown, hts⟩ (va_cwS 1 hts gX9_dense_X9_isNumber rfl rfl rfl (by decide +kernel) ⟨Nat.le_of_ble_eq_true rfl, Nat.le_of_ble_eq_true rfl⟩) hN hK hP [] rfl rfl hl.1 rfl (Nat.le_of_ble_eq_true rfl) dX9_dense_15 ⟨Nat.le_of_ble_eq_true rfl, Nat.le_of_ble_eq_true rfl⟩  (k_X9_isNumber l D cI cJ cK w9)) (fun r hp => ?_)
      rcases hp with ⟨k_6, rfl, rfl, ha_7⟩ | ⟨rfl, ho_8⟩
      ·
        refine lv_if_ne (tgt := 23) hx hb dX9_dense_18 (by decide) (fun c18 => ?_) (fun c18 => ?_)
        ·
          refine lv_aload_n hx hb dX9_dense_23 rfl (lv_at hl 0 rfl) ?_
          refine lv_iload_n hx hb dX9_dense_24 rfl (lv_at hl 1 rfl) ?_
          refine lv_iload_n hx hb dX9_dense_25 rfl (lv_at hl 2 rfl) ?_
          refine my_goVS (wc := (wl_k_X9_sorts cI cJ cK m0 a_row a_tape a_number a_read a_readBits a_stands a_parted a_bitsWere a_stood a_chosen a_bestChosen a_often a_sorted a_risen a_risenWays 0 (nI m_told) (nI m_taped) (nI m_at) (nI m_to) (nI m_many) (nI m_readMany) m_fewest (nI m_size) mn mf mg)) hP hD hS hA [0, 1, 2, 3] rfl [some 0, some 1, some 2, some 3] (by decide +kernel) (my_cV (As := [.int (nI a_1), .int (nI b_2)]) (rest := []) (ci := 9) (wc := (wl_k_X9_sorts cI cJ cK m0 a_row a_tape a_number a_read a_readBits a_stands a_parted a_bitsWere a_stood a_chosen a_bestChosen a_often a_sorted a_risen a_risenWays 0 (nI m_told) (nI m_taped) (nI m_at) (nI m_to) (nI m_many) (nI m_readMany) m_fewest (nI m_size) mn mf mg)) ⟨hx, hb, hml, hown, hts⟩ (cwV 2 hts gX9_dense_X9_sorts rfl rfl rfl (by decide +kernel) ⟨Nat.le_of_ble_eq_true rfl, Nat.le_of_ble_eq_true rfl⟩) hN hK hP hD [0, 1, 2, 3] rfl (by decide) rfl 0 rfl rfl rfl rfl hl.1 rfl (Nat.le_of_ble_eq_true rfl) dX9_dense_26 ⟨Nat.le_of_ble_eq_true rfl, Nat.le_of_ble_eq_true rfl⟩  ((k_X9_sorts l D cI cJ cK m0 a_row a_tape a_number a_read a_readBits a_stands a_parted a_bitsWere a_stood a_chosen a_bestChosen a_often a_sorted a_risen a_risenWays (0 : Int32) m_told m_taped m_at m_to m_many m_readMany m_fewest m_size mn mf mg a_1 b_2 (by first | assumption | omega | decide +kernel) (by first | assumption | omega | decide +kernel) (by first | assumption | omega | decide +kernel) (by first | assumption | omega | decide +kernel) (by first | assumption | omega | decide +kernel) (by first | assumption | omega | decide +kernel) (by first | assumption | omega | decide +kernel) hR_mn hR_mg (by first | assumption | omega | decide +kernel) (by first | assumption | omega | decide +kernel)) _)) (fun u H locs hp hPD hS => ?_)
          obtain ⟨m_size_9, mf_10, mg_11, rfl, hhz_m_size_12, hR_mg_11, hcs, hsz, hso, hsv⟩ := hp
          obtain ⟨hP, hD⟩ := hPD rfl
          have hP : va_P D vwCl (wl_k_X9_dense cI cJ cK m0 a_row a_tape a_number a_read a_readBits a_stands a_parted a_bitsWere a_stood a_chosen a_bestChosen a_often a_sorted a_risen a_risenWays 0 (nI m_told) (nI m_taped) (nI m_at) (nI m_to) (nI m_many) (nI m_readMany) m_fewest (nI m_size_9) mn mf_10 mg_11 mr) H := hP
          have hD : va_D A (wl_k_X9_dense cI cJ cK m0 a_row a_tape a_number a_read a_readBits a_stands a_parted a_bitsWere a_stood a_chosen a_bestChosen a_often a_sorted a_risen a_risenWays 0 (nI m_told) (nI m_taped) (nI m_at) (nI m_to) (nI m_many) (nI m_readMany) m_fewest (nI m_size_9) mn mf_10 mg_11 mr) := hD
          refine lv_iconst (v := 0) hx hb dX9_dense_29 (by decide +kernel) ?_
          refine lv_istore (lv' := [(4, .int 0), (0, .ref m0), (1, .int (nI a_1)), (2, .int (nI b_2)), (3, .int (nI k_6))]) hx hb dX9_dense_30 hl (by decide) rfl (fun ls hl => ?_)
          refine lv_iconst (v := (-1)) hx hb dX9_dense_32 (by decide +kernel) ?_
          refine lv_istore (lv' := [(5, .int (-1)), (4, .int 0), (0, .ref m0), (1, .int (nI a_1)), (2, .int (nI b_2)), (3, .int (nI k_6))]) hx hb dX9_dense_33 hl (by decide) rfl (fun ls hl => ?_)
          refine lv_iconst (v := 0) hx hb dX9_dense_35 (by decide +kernel) ?_
          refine lv_istore (lv' := [(6, .int 0), (5, .int (-1)), (4, .int 0), (0, .ref m0), (1, .int (nI a_1)), (2, .int (nI b_2)), (3, .int (nI k_6))]) hx hb dX9_dense_36 hl (by decide) rfl (fun ls hl => ?_)
          have loop38 : ∀ (n9 : Nat) (k : Nat) (y5_38 : Int32) (t : Nat), 64 - k < n9 → (t ≤ 64) → (k ≤ 64) → (k ≤ b_2 - a_1) → (mxP (fun i => dnN (cnF mn a_1 b_2) k_6 (mg_11 i).toInt.toNat) t k) → ∀ (H : Heap) (locs : List Loc) (ls : Array Slot), va_P D vwCl (wl_k_X9_dense cI cJ cK m0 a_row a_tape a_number a_read a_readBits a_stands a_parted a_bitsWere a_stood a_chosen a_bestChosen a_often a_sorted a_risen a_risenWays 0 (nI m_told) (nI m_taped) (nI m_at) (nI m_to) (nI m_many) (nI m_readMany) m_fewest (nI m_size_9) mn mf_10 mg_11 mr) H → va_D A (wl_k_X9_dense cI cJ cK m0 a_row a_tape a_number a_read a_readBits a_stands a_parted a_bitsWere a_stood a_chosen a_bestChosen a_often a_sorted a_risen a_risenWays 0 (nI m_told) (nI m_taped) (nI m_at) (nI m_to) (nI m_many) (nI m_readMany) m_fewest (nI m_size_9) mn mf_10 mg_11 mr) → va_S A s.heap H locs → lv_has ls 8 [(6, .int (nI k)), (5, .int y5_38), (4, .int (nI t)), (0, .ref m0), (1, .int (nI a_1)), (2, .int (nI b_2)), (3, .int (nI k_6))] → W p l e ({ frames := 2, cells := 0, slots := 0, locals := 120 } : Room) s m [.ref m0, .int (nI a_1), .int (nI b_2), .int (nI k_6)].toArray below meth c H locs 0 0 (MQ below (va_Qi (fun (r : Int32) (u : va_W) => (∃ (m_thrown' : Int32), u = (wl_k_X9_dense cI cJ cK m0 a_row a_tape a_number a_read a_readBits a_stands a_parted a_bitsWere a_stood a_chosen a_bestChosen a_often a_sorted a_risen a_risenWays m_thrown' (nI m_told) (nI m_taped) (nI m_at) (nI m_to) (nI m_many) (nI m_readMany) m_fewest (nI m_size) mn mf mg mr) ∧ r = (-1) ∧ ((nI a_1).toInt < 0 ∨ (nI b_2).toInt < (nI a_1).toInt ∨ m_many < (nI b_2).toInt ∨ (nI k_6).toInt < 0 ∨ 255 < (nI k_6).toInt)) ∨ (∃ (t' : Nat) (m_thrown' : Int32) (m_told' : Nat) (m_size' : Nat) (mf' : Nat → Int32) (mg' : Nat → Int32) (mr' : Nat → Int64), u = (wl_k_X9_dense cI cJ cK m0 a_row a_tape a_number a_read a_readBits a_stands a_parted a_bitsWere a_stood a_chosen a_bestChosen a_often a_sorted a_risen a_risenWays m_thrown' (nI m_told') (nI m_taped) (nI m_at) (nI m_to) (nI m_many) (nI m_readMany) m_fewest (nI m_size') mn mf' mg' mr') ∧ r = nI t' ∧ m_told' ≤ 64 ∧ m_size' ≤ 64 ∧ RB 0 255 mg' ∧ 0 ≤ (nI a_1).toInt ∧ (nI a_1).toInt ≤ (nI b_2).toInt ∧ (nI b_2).toInt ≤ m_many ∧ 0 ≤ (nI k_6).toInt ∧ (nI k_6).toInt ≤ 255 ∧ dnP (cnF mn (nI a_1).toInt.toNat (nI b_2).toInt.toNat) (nI k_6).toInt.toNat ((nI b_2).toInt.toNat - (nI a_1).toInt.toNat) t' ∧ m_told' = 1)) (my_B D (tyIJ cI cJ cK) A) A) [.ref m0, .int (nI a_1), .int (nI b_2), .int (nI k_6)].toArray s 0 0 A) (F0 m 38 ls []) := by
            intro n9
            induction n9 with
            | zero =>
              intro k y5_38 t hn9
              exact absurd hn9 (Nat.not_lt_zero _)
            | succ n9 ih38 =>
              intro k y5_38 t hn9 hk_t hk_k hkb hmx H locs ls hP hD hS hl
              refine lv_iload hx hb dX9_dense_38 (lv_at hl 0 rfl) ?_
              refine lv_aload_n hx hb dX9_dense_40 rfl (lv_at hl 3 rfl) ?_
              refine va_get (ci := 9) (v := .int (nI m_size_9)) (C := RX9) (T := TX9) (N := 24) hx hb hts hi9 hown hK hP 0 rfl rfl 21 (by decide) fl172 (fun _ h9 => h9) rfl dX9_dense_41 ?_
              refine lv_icmp_ge (tgt := 106) hx hb dX9_dense_44 (by decide) (fun c44 => ?_) (fun c44 => ?_)
              ·
                have d44 : ((k : Nat) : Int) ≥ ((m_size_9 : Nat) : Int) := my_ge c44 (nI_toInt (by omega)) (nI_toInt (by omega))
                have hke : k = b_2 - a_1 := by omega
                refine lv_aload_n hx hb dX9_dense_106 rfl (lv_at hl 3 rfl) ?_
                refine lv_iconst (v := 0) hx hb dX9_dense_107 (by decide +kernel) ?_
                refine va_put (ci := 9) (v := .int 0) (ty := (.int)) (C := RX9) (T := TX9) (N := 24) hx hb hts hi9 tyX9 tyX9_ok nmX9 hown hK hP hD hS 0 rfl rfl 1 (by decide) fl11 (fun _ h9 => h9) rfl (by decide +kernel) rfl rfl (Nat.le_of_ble_eq_true rfl) dX9_dense_108 (fun H locs hP hD hS => ?_)
                have hP : va_P D vwCl (wl_k_X9_dense cI cJ cK m0 a_row a_tape a_number a_read a_readBits a_stands a_parted a_bitsWere a_stood a_chosen a_bestChosen a_often a_sorted a_risen a_risenWays 0 0 (nI m_taped) (nI m_at) (nI m_to) (nI m_many) (nI m_readMany) m_fewest (nI m_size_9) mn mf_10 mg_11 mr) H := hP
                have hD : va_D A (wl_k_X9_dense cI cJ cK m0 a_row a_tape a_number a_read a_readBits a_stands a_parted a_bitsWere a_stood a_chosen a_bestChosen a_often a_sorted a_risen a_risenWays 0 0 (nI m_taped) (nI m_at) (nI m_to) (nI m_many) (nI m_readMany) m_fewest (nI m_size_9) mn mf_10 mg_11 mr) := hD
                refine lv_aload_n hx hb dX9_dense_111 rfl (lv_at hl 3 rfl) ?_
                refine lv_iload hx hb dX9_dense_112 (lv_at hl 1 rfl) ?_
                refine lv_i2l (v := y5_38.toInt64) hx hb dX9_dense_114 rfl ?_
                refine my_goVS (wc := (wl_k_X9_enters cI cJ cK m0 a_row a_tape a_number a_read a_readBits a_stands a_parted a_bitsWere a_stood a_chosen a_bestChosen a_often a_sorted a_risen a_risenWays 0 0 (nI m_taped) (nI m_at) (nI m_to) (nI m_many) (nI m_readMany) m_fewest (nI m_size_9) mr)) hP hD hS hA [0, 4] rfl [some 0, none, none, none, some 1] (by decide +kernel) (my_cV (As := [.long y5_38.toInt64]) (rest := []) (ci := 9) (wc := (wl_k_X9_enters cI cJ cK m0 a_row a_tape a_number a_read a_readBits a_stands a_parted a_bitsWere a_stood a_chosen a_bestChosen a_often a_sorted a_risen a_risenWays 0 0 (nI m_taped) (nI m_at) (nI m_to) (nI m_many) (nI m_readMany) m_fewest (nI m_size_9) mr)) ⟨hx, hb, hml, hown, hts⟩ (cwV 1 hts gX9_dense_X9_enters rfl rfl rfl (by decide +kernel) ⟨Nat.le_of_ble_eq_true rfl, Nat.le_of_ble_eq_true rfl⟩) hN hK hP hD [0, 4] rfl (by decide) rfl 0 rfl rfl rfl rfl hl.1 rfl (Nat.le_of_ble_eq_true rfl) dX9_dense_115 ⟨Nat.le_of_ble_eq_true rfl, Nat.le_of_ble_eq_true rfl⟩  ((k_X9_enters l D cI cJ cK m0 a_row a_tape a_number a_read a_readBits a_stands a_parted a_bitsWere a_stood a_chosen a_bestChosen a_often a_sorted a_risen a_risenWays (0 : Int32) 0 m_taped m_at m_to m_many m_readMany m_fewest m_size_9 mr y5_38.toInt64 (by first | assumption | omega | decide +kernel) (by first | assumption | omega | decide +kernel) (by first | assumption | omega | decide +kernel) (by first | assumption | omega | decide +kernel) (by first | assumption | omega | decide +kernel) (by first | assumption | omega | decide +kernel) (by first | assumption | omega | decide +kernel) (by first | assumption | omega | decide +kernel)) _)) (fun u H locs hp hPD hS => ?_)
                obtain ⟨m_told_13, mr_14, rfl, hhz_m_told_15, ht_16⟩ := hp
                obtain ⟨hP, hD⟩ := hPD rfl
                have hP : va_P D vwCl (wl_k_X9_dense cI cJ cK m0 a_row a_tape a_number a_read a_readBits a_stands a_parted a_bitsWere a_stood a_chosen a_bestChosen a_often a_sorted a_risen a_risenWays 0 (nI m_told_13) (nI m_taped) (nI m_at) (nI m_to) (nI m_many) (nI m_readMany) m_fewest (nI m_size_9) mn mf_10 mg_11 mr_14) H := hP
                have hD : va_D A (wl_k_X9_dense cI cJ cK m0 a_row a_tape a_number a_read a_readBits a_stands a_parted a_bitsWere a_stood a_chosen a_bestChosen a_often a_sorted a_risen a_risenWays 0 (nI m_told_13) (nI m_taped) (nI m_at) (nI m_to) (nI m_many) (nI m_readMany) m_fewest (nI m_size_9) mn mf_10 mg_11 mr_14) := hD
                refine lv_iload hx hb dX9_dense_118 (lv_at hl 2 rfl) ?_
                have hsI_l9 : (nI a_1).toInt = ((a_1 : Nat) : Int) := nI_toInt (by omega)
                have hsN_l9 : (nI a_1).toInt.toNat = a_1 := nIt (by omega)
                have hsI_r9 : (nI b_2).toInt = ((b_2 : Nat) : Int) := nI_toInt (by omega)
                have hsN_r9 : (nI b_2).toInt.toNat = b_2 := nIt (by omega)
                have hsI_w9 : (nI k_6).toInt = ((k_6 : Nat) : Int) := nI_toInt (by omega)
                have hsN_w9 : (nI k_6).toInt.toNat = k_6 := nIt (by omega)
                exact my_retI hx hb hr hlocks hK hS (wl_k_X9_dense cI cJ cK m0 a_row a_tape a_number a_read a_readBits a_stands a_parted a_bitsWere a_stood a_chosen a_bestChosen a_often a_sorted a_risen a_risenWays 0 (nI m_told_13) (nI m_taped) (nI m_at) (nI m_to) (nI m_many) (nI m_readMany) m_fewest (nI m_size_9) mn mf_10 mg_11 mr_14) hP hD (Or.inr (⟨t, 0, m_told_13, m_size_9, mf_10, mg_11, mr_14, rfl, rfl, (by first | assumption | omega | trivial | decide +kernel), (by first | assumption | omega | trivial | decide +kernel), hR_mg_11, (by first | assumption | omega | trivial | decide +kernel), (by first | assumption | omega | trivial | decide +kernel), (by first | assumption | omega | trivial | decide +kernel), (by first | assumption | omega | trivial | decide +kernel), (by first | assumption | omega | trivial | decide +kernel), (by rw [hsN_l9, hsN_r9, hsN_w9]; rw [hke] at hmx; exact dn_r hsv (cnF_sum hR_mn (by omega)) hmx), (by first | assumption | omega | trivial | decide +kernel)⟩)) dX9_dense_120
              ·
                have d44 : ((k : Nat) : Int) < ((m_size_9 : Nat) : Int) := my_nge c44 (nI_toInt (by omega)) (nI_toInt (by omega))
                refine lv_aload_n hx hb dX9_dense_47 rfl (lv_at hl 3 rfl) ?_
                refine lv_iconst (v := 0) hx hb dX9_dense_48 (by decide +kernel) ?_
                refine lv_aload_n hx hb dX9_dense_49 rfl (lv_at hl 3 rfl) ?_
                refine va_get (ci := 9) (v := .ref a_sorted) (C := RX9) (T := TX9) (N := 24) hx hb hts hi9 hown hK hP 0 rfl rfl 20 (by decide) fl79 (fun _ h9 => h9) rfl dX9_dense_50 ?_
                refine lv_iload hx hb dX9_dense_53 (lv_at hl 0 rfl) ?_
                have hb9 := hR_mg_11 k
                refine va_iald hx hb hK hP 3 0 rfl rfl (vp_in_nI (by omega) (by omega)) dX9_dense_55 ?_
                refine my_eqi (y := nI ((mg_11 k).toInt.toNat)) ((congrArg mg_11 (nI_clamp (by omega))).trans (nI_tn (hR_mg_11 k).1)) ?_
                refine lv_aload_n hx hb dX9_dense_56 rfl (lv_at hl 3 rfl) ?_
                refine va_get (ci := 9) (v := .ref a_sorted) (C := RX9) (T := TX9) (N := 24) hx hb hts hi9 hown hK hP 0 rfl rfl 20 (by decide) fl79 (fun _ h9 => h9) rfl dX9_dense_57 ?_
                refine lv_iload hx hb dX9_dense_60 (lv_at hl 0 rfl) ?_
                have hb9 := hR_mg_11 k
                refine va_iald hx hb hK hP 3 0 rfl rfl (vp_in_nI (by omega) (by omega)) dX9_dense_62 ?_
                refine my_eqi (y := nI ((mg_11 k).toInt.toNat)) ((congrArg mg_11 (nI_clamp (by omega))).trans (nI_tn (hR_mg_11 k).1)) ?_
                refine lv_iload_n hx hb dX9_dense_63 rfl (lv_at hl 6 rfl) ?_
                refine lv_iadd hx hb dX9_dense_64 ?_
                refine my_eqi (y := nI ((mg_11 k).toInt.toNat + k_6)) (nI_add _ _) ?_
                refine my_gpI (my_pV (As := [.int 0, .int (nI ((mg_11 k).toInt.toNat)), .int (nI ((mg_11 k).toInt.toNat + k_6))]) (rest := []) (ci := 9) ⟨hx, hb, hml, hown, hts⟩ (cwV 3 hts gX9_dense_X9_within rfl rfl rfl (by decide +kernel) ⟨Nat.le_of_ble_eq_true rfl, Nat.le_of_ble_eq_true rfl⟩) hN hK hP [0, 2] rfl 0 rfl rfl rfl rfl hl.1 rfl (Nat.le_of_ble_eq_true rfl) dX9_dense_65 ⟨Nat.le_of_ble_eq_true rfl, Nat.le_of_ble_eq_true rfl⟩  (kv_X9_within l D cI cJ cK m0 a_row a_tape a_number a_read a_readBits a_stands a_parted a_bitsWere a_stood a_chosen a_bestChosen a_often a_sorted a_risen a_risenWays (0 : Int32) m_told m_taped m_at m_to m_many m_readMany m_fewest m_size_9 mf_10 ((mg_11 k).toInt.toNat) ((mg_11 k).toInt.toNat + k_6) (cnF mn a_1 b_2) (by first | assumption | omega | decide +kernel) (by first | assumption | omega | decide +kernel) (by first | assumption | omega | decide +kernel) (by first | assumption | omega | decide +kernel) (by first | assumption | omega | decide +kernel) (by first | assumption | omega | decide +kernel) (by first | assumption | omega | decide +kernel) (by first | assumption | omega | decide +kernel) (by first | assumption | omega | decide +kernel) (by first | assumption | omega | decide +kernel) (hcs) (fun v => cnF_64 (by omega)) (by rw [cnF_sum hR_mn (by omega)]; omega))) (fun r hp => ?_)
                obtain ⟨t_17, rfl, hwt, hq_18⟩ := hp
                have hre : t_17 = dnN (cnF mn a_1 b_2) k_6 (mg_11 k).toInt.toNat := by unfold dnN; omega
                refine lv_istore (lv' := [(7, .int (nI t_17)), (6, .int (nI k)), (5, .int y5_38), (4, .int (nI t)), (0, .ref m0), (1, .int (nI a_1)), (2, .int (nI b_2)), (3, .int (nI k_6))]) hx hb dX9_dense_68 hl (by decide) rfl (fun ls hl => ?_)
                refine lv_iload hx hb dX9_dense_70 (lv_at hl 0 rfl) ?_
                refine lv_iload hx hb dX9_dense_72 (lv_at hl 3 rfl) ?_
                refine lv_icmp_le (tgt := 87) hx hb dX9_dense_74 (by decide) (fun c74 => ?_) (fun c74 => ?_)
                ·
                  have d74 : ((t_17 : Nat) : Int) ≤ ((t : Nat) : Int) := my_le c74 (nI_toInt (by omega)) (nI_toInt (by omega))
                  refine lv_iload hx hb dX9_dense_87 (lv_at hl 2 rfl) ?_
                  refine lv_istore (lv' := [(5, .int y5_38), (7, .int (nI t_17)), (6, .int (nI k)), (4, .int (nI t)), (0, .ref m0), (1, .int (nI a_1)), (2, .int (nI b_2)), (3, .int (nI k_6))]) hx hb dX9_dense_89 hl (by decide) rfl (fun ls hl => ?_)
                  refine lv_iload hx hb dX9_dense_91 (lv_at hl 3 rfl) ?_
                  refine lv_iload hx hb dX9_dense_93 (lv_at hl 1 rfl) ?_
                  refine va_mmax hx hb (hml.trans hl.1.symm) hown (hts (.methodLink RX9 181 Lib.Math.max.name) (by decide +kernel)) (hts (.static Lib.Math.max.name) (by decide +kernel)) (hts (.initialized "java/lang/Math") (by decide +kernel)) (hts (.code Lib.Math.max.name Lib.Math.max.code 2 (some .int)) (by decide +kernel)) (Nat.le_of_ble_eq_true rfl) (Nat.le_of_ble_eq_true rfl) (Nat.le_of_ble_eq_true rfl) (Nat.le_of_ble_eq_true rfl) dX9_dense_95 ?_
                  refine lv_topi (fun z_19 ez_19 => ?_)
                  have tz_19 := my_maxI (a := ((t : Nat) : Int)) (b := ((t_17 : Nat) : Int)) ez_19 (nI_toInt (by omega)) (nI_toInt (by omega))
                  obtain ⟨w_20, ew_20, hw_20⟩ : ∃ w : Nat, z_19 = nI w ∧ (w : Int) = (z_19 : Int32).toInt := my_natE (by omega)
                  refine my_eqi (y := nI w_20) ew_20 ?_
                  refine lv_istore (lv' := [(4, .int (nI w_20)), (5, .int y5_38), (7, .int (nI t_17)), (6, .int (nI k)), (0, .ref m0), (1, .int (nI a_1)), (2, .int (nI b_2)), (3, .int (nI k_6))]) hx hb dX9_dense_98 hl (by decide) rfl (fun ls hl => ?_)
                  refine lv_iinc (v := nI (k + 1)) (lv' := [(6, .int (nI (k + 1))), (4, .int (nI w_20)), (5, .int y5_38), (7, .int (nI t_17)), (0, .ref m0), (1, .int (nI a_1)), (2, .int (nI b_2)), (3, .int (nI k_6))]) hx hb dX9_dense_100 hl (k := 3) rfl (my_incN k 1 (by decide +kernel)) (by decide) rfl (fun ls hl => ?_)
                  refine lv_goto (tgt := 38) hx hb dX9_dense_103 (by decide) ?_
                  exact ih38  (k + 1) y5_38 w_20 (by omega) (by first | assumption | omega | decide +kernel) (by first | assumption | omega | decide +kernel) (by first | assumption | omega | decide +kernel) (mx_any hmx hre (by omega)) _ _ ls hP hD hS (lv_sub hl [0, 2, 1, 4, 5, 6, 7] rfl)
                ·
                  have d74 : ((t_17 : Nat) : Int) > ((t : Nat) : Int) := my_nle c74 (nI_toInt (by omega)) (nI_toInt (by omega))
                  refine lv_aload_n hx hb dX9_dense_77 rfl (lv_at hl 4 rfl) ?_
                  refine va_get (ci := 9) (v := .ref a_sorted) (C := RX9) (T := TX9) (N := 24) hx hb hts hi9 hown hK hP 0 rfl rfl 20 (by decide) fl79 (fun _ h9 => h9) rfl dX9_dense_78 ?_
                  refine lv_iload hx hb dX9_dense_81 (lv_at hl 1 rfl) ?_
                  refine va_iald hx hb hK hP 3 0 rfl rfl (vp_in_nI (by omega) (by omega)) dX9_dense_83 ?_
                  refine my_eqi (y := mg_11 k) (congrArg mg_11 (nI_clamp (by omega))) ?_
                  have hb_21 := hR_mg_11 k
                  refine lv_goto (tgt := 89) hx hb dX9_dense_84 (by decide) ?_
                  refine lv_istore (lv' := [(5, .int (mg_11 k)), (7, .int (nI t_17)), (6, .int (nI k)), (4, .int (nI t)), (0, .ref m0), (1, .int (nI a_1)), (2, .int (nI b_2)), (3, .int (nI k_6))]) hx hb dX9_dense_89 hl (by decide) rfl (fun ls hl => ?_)
                  refine lv_iload hx hb dX9_dense_91 (lv_at hl 3 rfl) ?_
                  refine lv_iload hx hb dX9_dense_93 (lv_at hl 1 rfl) ?_
                  refine va_mmax hx hb (hml.trans hl.1.symm) hown (hts (.methodLink RX9 181 Lib.Math.max.name) (by decide +kernel)) (hts (.static Lib.Math.max.name) (by decide +kernel)) (hts (.initialized "java/lang/Math") (by decide +kernel)) (hts (.code Lib.Math.max.name Lib.Math.max.code 2 (some .int)) (by decide +kernel)) (Nat.le_of_ble_eq_true rfl) (Nat.le_of_ble_eq_true rfl) (Nat.le_of_ble_eq_true rfl) (Nat.le_of_ble_eq_true rfl) dX9_dense_95 ?_
                  refine lv_topi (fun z_22 ez_22 => ?_)
                  have tz_22 := my_maxI (a := ((t : Nat) : Int)) (b := ((t_17 : Nat) : Int)) ez_22 (nI_toInt (by omega)) (nI_toInt (by omega))
                  obtain ⟨w_23, ew_23, hw_23⟩ : ∃ w : Nat, z_22 = nI w ∧ (w : Int) = (z_22 : Int32).toInt := my_natE (by omega)
                  refine my_eqi (y := nI w_23) ew_23 ?_
                  refine lv_istore (lv' := [(4, .int (nI w_23)), (5, .int (mg_11 k)), (7, .int (nI t_17)), (6, .int (nI k)), (0, .ref m0), (1, .int (nI a_1)), (2, .int (nI b_2)), (3, .int (nI k_6))]) hx hb dX9_dense_98 hl (by decide) rfl (fun ls hl => ?_)
                  refine lv_iinc (v := nI (k + 1)) (lv' := [(6, .int (nI (k + 1))), (4, .int (nI w_23)), (5, .int (mg_11 k)), (7, .int (nI t_17)), (0, .ref m0), (1, .int (nI a_1)), (2, .int (nI b_2)), (3, .int (nI k_6))]) hx hb dX9_dense_100 hl (k := 3) rfl (my_incN k 1 (by decide +kernel)) (by decide) rfl (fun ls hl => ?_)
                  refine lv_goto (tgt := 38) hx hb dX9_dense_103 (by decide) ?_
                  exact ih38  (k + 1) (mg_11 k) w_23 (by omega) (by first | assumption | omega | decide +kernel) (by first | assumption | omega | decide +kernel) (by first | assumption | omega | decide +kernel) (mx_any hmx hre (by omega)) _ _ ls hP hD hS (lv_sub hl [0, 2, 1, 4, 5, 6, 7] rfl)
          have ec_24 : (-1 : Int32).toInt = -1 := by decide +kernel
          exact loop38 ((64 - 0) + 1) 0 (-1 : Int32) 0 (Nat.lt_succ_self _) (by first | assumption | omega | decide +kernel) (by first | assumption | omega | decide +kernel) (by first | assumption | omega | decide +kernel) (mx_0) _ _ ls hP hD hS (lv_sub hl [0, 1, 2, 3, 4, 5, 6] rfl)
        ·
          exact absurd c18 (by decide +kernel)
      ·
        refine lv_if_ne (tgt := 23) hx hb dX9_dense_18 (by decide) (fun c18 => ?_) (fun c18 => ?_)
        ·
          exact absurd c18 (by decide +kernel)
        ·
          refine lv_iconst (v := (-1)) hx hb dX9_dense_21 (by decide +kernel) ?_
          have hsI_l9 : (nI a_1).toInt = ((a_1 : Nat) : Int) := nI_toInt (by omega)
          have hsN_l9 : (nI a_1).toInt.toNat = a_1 := nIt (by omega)
          have hsI_r9 : (nI b_2).toInt = ((b_2 : Nat) : Int) := nI_toInt (by omega)
          have hsN_r9 : (nI b_2).toInt.toNat = b_2 := nIt (by omega)
          exact my_retI hx hb hr hlocks hK hS (wl_k_X9_dense cI cJ cK m0 a_row a_tape a_number a_read a_readBits a_stands a_parted a_bitsWere a_stood a_chosen a_bestChosen a_often a_sorted a_risen a_risenWays 0 (nI m_told) (nI m_taped) (nI m_at) (nI m_to) (nI m_many) (nI m_readMany) m_fewest (nI m_size) mn mf mg mr) hP hD (Or.inl ⟨0, rfl, rfl, (by first | assumption | omega | trivial | decide +kernel)⟩) dX9_dense_22
  ·
    refine lv_if_eq (tgt := 21) hx hb dX9_dense_11 (by decide) (fun c11 => ?_) (fun c11 => ?_)
    ·
      refine lv_iconst (v := (-1)) hx hb dX9_dense_21 (by decide +kernel) ?_
      exact my_retI hx hb hr hlocks hK hS (wl_k_X9_dense cI cJ cK m0 a_row a_tape a_number a_read a_readBits a_stands a_parted a_bitsWere a_stood a_chosen a_bestChosen a_often a_sorted a_risen a_risenWays 0 (nI m_told) (nI m_taped) (nI m_at) (nI m_to) (nI m_many) (nI m_readMany) m_fewest (nI m_size) mn mf mg mr) hP hD (Or.inl ⟨0, rfl, rfl, (by first | assumption | omega | trivial | decide +kernel)⟩) dX9_dense_22
    ·
      exact absurd c11 (by decide +kernel)
abbrev wl_k_X9_farthest (cI cJ cK : ClassId) (m0 : Nat) (a_row : Nat) (a_tape : Nat) (a_number : Nat) (a_read : Nat) (a_readBits : Nat) (a_stands : Nat) (a_parted : Nat) (a_bitsWere : Nat) (a_stood : Nat) (a_chosen : Nat) (a_bestChosen : Nat) (a_often : Nat) (a_sorted : Nat) (a_risen : Nat) (a_risenWays : Nat) (v0_ : Int32) (v1_ : Int32) (v2_ : Int32) (v3_ : Int32) (v4_ : Int32) (v5_ : Int32) (v6_ : Int32) (v7_ : Int32) (v8_ : Int32) (v9_ : Nat → Int32) (v10_ : Nat → Int32) (v11_ : Nat → Int64) : va_W := [(m0, .inr (9, [.int v0_, .int v1_, .ref a_row, .ref a_tape, .int v2_, .int v3_, .int v4_, .int v5_, .ref a_number, .ref a_read, .int v6_, .ref a_readBits, .ref a_stands, .ref a_parted, .ref a_bitsWere, .ref a_stood, .ref a_chosen, .ref a_bestChosen, .int v7_, .ref a_often, .ref a_sorted, .int v8_, .ref a_risen, .ref a_risenWays])), (a_number, .inl (cI, 64, .inl v9_)), (a_often, .inl (cI, 512, .inl v10_)), (a_row, .inl (cJ, 64, .inr (.inl v11_)))]
set_option maxHeartbeats 4000000 in
set_option maxRecDepth 100000 in
theorem k_X9_farthest (l : Launch) (D : va_G) (cI cJ cK : ClassId) (m0 : Nat) (a_row : Nat) (a_tape : Nat) (a_number : Nat) (a_read : Nat) (a_readBits : Nat) (a_stands : Nat) (a_parted : Nat) (a_bitsWere : Nat) (a_stood : Nat) (a_chosen : Nat) (a_bestChosen : Nat) (a_often : Nat) (a_sorted : Nat) (a_risen : Nat) (a_risenWays : Nat) (m_thrown : Int32) (m_told : Nat) (m_taped : Nat) (m_at : Nat) (m_to : Nat) (m_many : Nat) (m_readMany : Nat) (m_fewest : Int32) (m_size : Nat) (mn : Nat → Int32) (mf : Nat → Int32) (mr : Nat → Int64) (l9 : Int32) (r9 : Int32) (w9 : Int32) (hz_m_told : m_told ≤ 64) (hz_m_taped : m_taped ≤ 100) (hz_m_at : m_at ≤ 100) (hz_m_to : m_to ≤ 100) (hz_m_many : m_many ≤ 64) (hz_m_readMany : m_readMany ≤ 64) (hz_m_size : m_size ≤ 64) (hR_mn : RB 0 255 mn) : ctI l yX9_farthest wsX9_farthest ({ frames := 2, cells := 0, slots := 0, locals := 120 } : Room) D (tyIJ cI cJ cK) [.ref m0, .int l9, .int r9, .int w9] (wl_k_X9_farthest cI cJ cK m0 a_row a_tape a_number a_read a_readBits a_stands a_parted a_bitsWere a_stood a_chosen a_bestChosen a_often a_sorted a_risen a_risenWays m_thrown (nI m_told) (nI m_taped) (nI m_at) (nI m_to) (nI m_many) (nI m_readMany) m_fewest (nI m_size) mn mf mr) (fun (r : Int32) (u : va_W) => (∃ (m_thrown' : Int32), u = (wl_k_X9_farthest cI cJ cK m0 a_row a_tape a_number a_read a_readBits a_stands a_parted a_bitsWere a_stood a_chosen a_bestChosen a_often a_sorted a_risen a_risenWays m_thrown' (nI m_told) (nI m_taped) (nI m_at) (nI m_to) (nI m_many) (nI m_readMany) m_fewest (nI m_size) mn mf mr) ∧ r = (-1) ∧ (l9.toInt < 0 ∨ r9.toInt < l9.toInt ∨ m_many < r9.toInt ∨ w9.toInt < 0 ∨ 255 < w9.toInt)) ∨ (∃ (m_thrown' : Int32) (m_told' : Nat) (mf' : Nat → Int32) (mr' : Nat → Int64), u = (wl_k_X9_farthest cI cJ cK m0 a_row a_tape a_number a_read a_readBits a_stands a_parted a_bitsWere a_stood a_chosen a_bestChosen a_often a_sorted a_risen a_risenWays m_thrown' (nI m_told') (nI m_taped) (nI m_at) (nI m_to) (nI m_many) (nI m_readMany) m_fewest (nI m_size) mn mf' mr') ∧ r = (-2) ∧ m_told' ≤ 64 ∧ 0 ≤ l9.toInt ∧ l9.toInt ≤ r9.toInt ∧ r9.toInt ≤ m_many ∧ 0 ≤ w9.toInt ∧ w9.toInt ≤ 255 ∧ l9.toInt = r9.toInt ∧ m_told' = m_told) ∨ (∃ (m_thrown' : Int32) (m_told' : Nat) (mf' : Nat → Int32) (mr' : Nat → Int64), u = (wl_k_X9_farthest cI cJ cK m0 a_row a_tape a_number a_read a_readBits a_stands a_parted a_bitsWere a_stood a_chosen a_bestChosen a_often a_sorted a_risen a_risenWays m_thrown' (nI m_told') (nI m_taped) (nI m_at) (nI m_to) (nI m_many) (nI m_readMany) m_fewest (nI m_size) mn mf' mr') ∧ m_told' ≤ 64 ∧ 0 ≤ l9.toInt ∧ l9.toInt ≤ r9.toInt ∧ r9.toInt ≤ m_many ∧ 0 ≤ w9.toInt ∧ w9.toInt ≤ 255 ∧ blP (axF (cnF mn l9.toInt.toNat r9.toInt.toNat) w9.toInt.toNat) 256 r ∧ m_told' = 2)) := by
  refine ctI.of (cc := cX9_farthest) (maxL := 5) (ret := (some .int)) (by decide) rfl (Nat.le_of_ble_eq_true rfl) ?_
  intro p e s m below meth c ls A hx hb hr hts hown hml hlocks hname hA hK hN hP hD hS hl
  have hl : lv_has ls 5 [(0, .ref m0), (1, .int l9), (2, .int r9), (3, .int w9)] := hl
  have hown : s.vm.findClass RX9 = some m.cls := hown
  have hi9 : ∀ w ∈ u_ws RX9 TX9 24, w ∈ wsX9_farthest := by decide +kernel
  have fl1 := hts (.fieldLink RX9 1 "PlaneColumnModel" "thrown" "I") (by decide +kernel)
  have fl11 := hts (.fieldLink RX9 11 "PlaneColumnModel" "told" "I") (by decide +kernel)
  refine lv_aload_n hx hb dX9_farthest_0 rfl (lv_at hl 0 rfl) ?_
  refine lv_iconst (v := 0) hx hb dX9_farthest_1 (by decide +kernel) ?_
  refine va_put (ci := 9) (v := .int 0) (ty := (.int)) (C := RX9) (T := TX9) (N := 24) hx hb hts hi9 tyX9 tyX9_ok nmX9 hown hK hP hD hS 0 rfl rfl 0 (by decide) fl1 (fun _ h9 => h9) rfl (by decide +kernel) rfl rfl (Nat.le_of_ble_eq_true rfl) dX9_farthest_2 (fun H locs hP hD hS => ?_)
  have hP : va_P D vwCl (wl_k_X9_farthest cI cJ cK m0 a_row a_tape a_number a_read a_readBits a_stands a_parted a_bitsWere a_stood a_chosen a_bestChosen a_often a_sorted a_risen a_risenWays 0 (nI m_told) (nI m_taped) (nI m_at) (nI m_to) (nI m_many) (nI m_readMany) m_fewest (nI m_size) mn mf mr) H := hP
  have hD : va_D A (wl_k_X9_farthest cI cJ cK m0 a_row a_tape a_number a_read a_readBits a_stands a_parted a_bitsWere a_stood a_chosen a_bestChosen a_often a_sorted a_risen a_risenWays 0 (nI m_told) (nI m_taped) (nI m_at) (nI m_to) (nI m_many) (nI m_readMany) m_fewest (nI m_size) mn mf mr) := hD
  refine lv_aload_n hx hb dX9_farthest_5 rfl (lv_at hl 0 rfl) ?_
  refine lv_iload_n hx hb dX9_farthest_6 rfl (lv_at hl 1 rfl) ?_
  refine lv_iload_n hx hb dX9_farthest_7 rfl (lv_at hl 2 rfl) ?_
  refine my_gpI (my_pV (As := [.int l9, .int r9]) (rest := []) (ci := 9) ⟨hx, hb, hml, hown, hts⟩ (cwV 2 hts gX9_farthest_X9_isSpan rfl rfl rfl (by decide +kernel) ⟨Nat.le_of_ble_eq_true rfl, Nat.le_of_ble_eq_true rfl⟩) hN hK hP [0] rfl 0 rfl rfl rfl rfl hl.1 rfl (Nat.le_of_ble_eq_true rfl) dX9_farthest_8 ⟨Nat.le_of_ble_eq_true rfl, Nat.le_of_ble_eq_true rfl⟩  (k_X9_isSpan l D cI cJ cK m0 a_row a_tape a_number a_read a_readBits a_stands a_parted a_bitsWere a_stood a_chosen a_bestChosen a_often a_sorted a_risen a_risenWays (0 : Int32) m_told m_taped m_at m_to m_many m_readMany m_fewest m_size l9 r9 (by first | assumption | omega | decide +kernel) (by first | assumption | omega | decide +kernel) (by first | assumption | omega | decide +kernel) (by first | assumption | omega | decide +kernel) (by first | assumption | omega | decide +kernel) (by first | assumption | omega | decide +kernel) (by first | assumption | omega | decide +kernel))) (fun r hp => ?_)
  rcases hp with ⟨a_1, b_2, rfl, rfl, rfl, ha_3, hb_4⟩ | ⟨rfl, ho_5⟩
  ·
    refine lv_if_eq (tgt := 21) hx hb dX9_farthest_11 (by decide) (fun c11 => ?_) (fun c11 => ?_)
    ·
      exact absurd c11 (by decide +kernel)
    ·
      refine lv_iload_n hx hb dX9_farthest_14 rfl (lv_at hl 3 rfl) ?_
      refine my_gpI (my_pS (As := [.int w9]) (rest := []) ⟨hx, hb, hml, hown, hts⟩ (va_cwS 1 hts gX9_farthest_X9_isNumber rfl rfl rfl (by decide +kernel) ⟨Nat.le_of_ble_eq_true rfl, Nat.le_of_ble_eq_true rfl⟩) hN hK hP [] rfl rfl hl.1 rfl (Nat.le_of_ble_eq_true rfl) dX9_farthest_15 ⟨Nat.le_of_ble_eq_true rfl, Nat.le_of_ble_eq_true rfl⟩  (k_X9_isNumber l D cI cJ cK w9)) (fun r hp => ?_)
      rcases hp with ⟨k_6, rfl, rfl, ha_7⟩ | ⟨rfl, ho_8⟩
      ·
        refine lv_if_ne (tgt := 23) hx hb dX9_farthest_18 (by decide) (fun c18 => ?_) (fun c18 => ?_)
        ·
          refine lv_iload_n hx hb dX9_farthest_23 rfl (lv_at hl 1 rfl) ?_
          refine lv_iload_n hx hb dX9_farthest_24 rfl (lv_at hl 2 rfl) ?_
          refine lv_icmp_ne (tgt := 31) hx hb dX9_farthest_25 (by decide) (fun c25 => ?_) (fun c25 => ?_)
          ·
            have d25 : ((a_1 : Nat) : Int) ≠ ((b_2 : Nat) : Int) := my_ne c25 (nI_toInt (by omega)) (nI_toInt (by omega))
            refine lv_aload_n hx hb dX9_farthest_31 rfl (lv_at hl 0 rfl) ?_
            refine lv_iconst (v := 0) hx hb dX9_farthest_32 (by decide +kernel) ?_
            refine lv_iload_n hx hb dX9_farthest_33 rfl (lv_at hl 1 rfl) ?_
            refine lv_iload_n hx hb dX9_farthest_34 rfl (lv_at hl 2 rfl) ?_
            refine my_goVS (wc := (wl_k0_X9_counts cI cJ cK m0 a_row a_tape a_number a_read a_readBits a_stands a_parted a_bitsWere a_stood a_chosen a_bestChosen a_often a_sorted a_risen a_risenWays 0 (nI m_told) (nI m_taped) (nI m_at) (nI m_to) (nI m_many) (nI m_readMany) m_fewest (nI m_size) mn mf)) hP hD hS hA [0, 1, 2] rfl [some 0, some 1, some 2] (by decide +kernel) (my_cV (As := [.int 0, .int (nI a_1), .int (nI b_2)]) (rest := []) (ci := 9) (wc := (wl_k0_X9_counts cI cJ cK m0 a_row a_tape a_number a_read a_readBits a_stands a_parted a_bitsWere a_stood a_chosen a_bestChosen a_often a_sorted a_risen a_risenWays 0 (nI m_told) (nI m_taped) (nI m_at) (nI m_to) (nI m_many) (nI m_readMany) m_fewest (nI m_size) mn mf)) ⟨hx, hb, hml, hown, hts⟩ (cwV 3 hts gX9_farthest_X9_counts rfl rfl rfl (by decide +kernel) ⟨Nat.le_of_ble_eq_true rfl, Nat.le_of_ble_eq_true rfl⟩) hN hK hP hD [0, 1, 2] rfl (by decide) rfl 0 rfl rfl rfl rfl hl.1 rfl (Nat.le_of_ble_eq_true rfl) dX9_farthest_35 ⟨Nat.le_of_ble_eq_true rfl, Nat.le_of_ble_eq_true rfl⟩  ((k0_X9_counts l D cI cJ cK m0 a_row a_tape a_number a_read a_readBits a_stands a_parted a_bitsWere a_stood a_chosen a_bestChosen a_often a_sorted a_risen a_risenWays (0 : Int32) m_told m_taped m_at m_to m_many m_readMany m_fewest m_size mn mf a_1 b_2 (by first | assumption | omega | decide +kernel) (by first | assumption | omega | decide +kernel) (by first | assumption | omega | decide +kernel) (by first | assumption | omega | decide +kernel) (by first | assumption | omega | decide +kernel) (by first | assumption | omega | decide +kernel) (by first | assumption | omega | decide +kernel) hR_mn (by first | assumption | omega | decide +kernel) (by first | assumption | omega | decide +kernel)) _)) (fun u H locs hp hPD hS => ?_)
            obtain ⟨mf_9, rfl, hcn0, hco0⟩ := hp
            obtain ⟨hP, hD⟩ := hPD rfl
            have hP : va_P D vwCl (wl_k_X9_farthest cI cJ cK m0 a_row a_tape a_number a_read a_readBits a_stands a_parted a_bitsWere a_stood a_chosen a_bestChosen a_often a_sorted a_risen a_risenWays 0 (nI m_told) (nI m_taped) (nI m_at) (nI m_to) (nI m_many) (nI m_readMany) m_fewest (nI m_size) mn mf_9 mr) H := hP
            have hD : va_D A (wl_k_X9_farthest cI cJ cK m0 a_row a_tape a_number a_read a_readBits a_stands a_parted a_bitsWere a_stood a_chosen a_bestChosen a_often a_sorted a_risen a_risenWays 0 (nI m_told) (nI m_taped) (nI m_at) (nI m_to) (nI m_many) (nI m_readMany) m_fewest (nI m_size) mn mf_9 mr) := hD
            refine lv_sipush (v := 255) hx hb dX9_farthest_38 (by decide +kernel) ?_
            refine lv_istore (lv' := [(4, .int 255), (0, .ref m0), (1, .int (nI a_1)), (2, .int (nI b_2)), (3, .int (nI k_6))]) hx hb dX9_farthest_41 hl (by decide) rfl (fun ls hl => ?_)
            have loop43 : ∀ (n9 : Nat) (u : Nat), u < n9 → (u ≤ 255) → (∃ q, q ≤ u ∧ 0 < cn mn (q ^^^ k_6) a_1 b_2) → (∀ q : Nat, (u : Int) < (q : Int) → (q : Int) < 256 → (axF (cnF mn a_1 b_2) k_6) q = 0) → ∀ (H : Heap) (locs : List Loc) (ls : Array Slot), va_P D vwCl (wl_k_X9_farthest cI cJ cK m0 a_row a_tape a_number a_read a_readBits a_stands a_parted a_bitsWere a_stood a_chosen a_bestChosen a_often a_sorted a_risen a_risenWays 0 (nI m_told) (nI m_taped) (nI m_at) (nI m_to) (nI m_many) (nI m_readMany) m_fewest (nI m_size) mn mf_9 mr) H → va_D A (wl_k_X9_farthest cI cJ cK m0 a_row a_tape a_number a_read a_readBits a_stands a_parted a_bitsWere a_stood a_chosen a_bestChosen a_often a_sorted a_risen a_risenWays 0 (nI m_told) (nI m_taped) (nI m_at) (nI m_to) (nI m_many) (nI m_readMany) m_fewest (nI m_size) mn mf_9 mr) → va_S A s.heap H locs → lv_has ls 5 [(4, .int (nI u)), (0, .ref m0), (1, .int (nI a_1)), (2, .int (nI b_2)), (3, .int (nI k_6))] → W p l e ({ frames := 2, cells := 0, slots := 0, locals := 120 } : Room) s m [.ref m0, .int (nI a_1), .int (nI b_2), .int (nI k_6)].toArray below meth c H locs 0 0 (MQ below (va_Qi (fun (r : Int32) (u : va_W) => (∃ (m_thrown' : Int32), u = (wl_k_X9_farthest cI cJ cK m0 a_row a_tape a_number a_read a_readBits a_stands a_parted a_bitsWere a_stood a_chosen a_bestChosen a_often a_sorted a_risen a_risenWays m_thrown' (nI m_told) (nI m_taped) (nI m_at) (nI m_to) (nI m_many) (nI m_readMany) m_fewest (nI m_size) mn mf mr) ∧ r = (-1) ∧ ((nI a_1).toInt < 0 ∨ (nI b_2).toInt < (nI a_1).toInt ∨ m_many < (nI b_2).toInt ∨ (nI k_6).toInt < 0 ∨ 255 < (nI k_6).toInt)) ∨ (∃ (m_thrown' : Int32) (m_told' : Nat) (mf' : Nat → Int32) (mr' : Nat → Int64), u = (wl_k_X9_farthest cI cJ cK m0 a_row a_tape a_number a_read a_readBits a_stands a_parted a_bitsWere a_stood a_chosen a_bestChosen a_often a_sorted a_risen a_risenWays m_thrown' (nI m_told') (nI m_taped) (nI m_at) (nI m_to) (nI m_many) (nI m_readMany) m_fewest (nI m_size) mn mf' mr') ∧ r = (-2) ∧ m_told' ≤ 64 ∧ 0 ≤ (nI a_1).toInt ∧ (nI a_1).toInt ≤ (nI b_2).toInt ∧ (nI b_2).toInt ≤ m_many ∧ 0 ≤ (nI k_6).toInt ∧ (nI k_6).toInt ≤ 255 ∧ (nI a_1).toInt = (nI b_2).toInt ∧ m_told' = m_told) ∨ (∃ (m_thrown' : Int32) (m_told' : Nat) (mf' : Nat → Int32) (mr' : Nat → Int64), u = (wl_k_X9_farthest cI cJ cK m0 a_row a_tape a_number a_read a_readBits a_stands a_parted a_bitsWere a_stood a_chosen a_bestChosen a_often a_sorted a_risen a_risenWays m_thrown' (nI m_told') (nI m_taped) (nI m_at) (nI m_to) (nI m_many) (nI m_readMany) m_fewest (nI m_size) mn mf' mr') ∧ m_told' ≤ 64 ∧ 0 ≤ (nI a_1).toInt ∧ (nI a_1).toInt ≤ (nI b_2).toInt ∧ (nI b_2).toInt ≤ m_many ∧ 0 ≤ (nI k_6).toInt ∧ (nI k_6).toInt ≤ 255 ∧ blP (axF (cnF mn (nI a_1).toInt.toNat (nI b_2).toInt.toNat) (nI k_6).toInt.toNat) 256 r ∧ m_told' = 2)) (my_B D (tyIJ cI cJ cK) A) A) [.ref m0, .int (nI a_1), .int (nI b_2), .int (nI k_6)].toArray s 0 0 A) (F0 m 43 ls []) := by
              intro n9
              induction n9 with
              | zero =>
                intro u hn9
                exact absurd hn9 (Nat.not_lt_zero _)
              | succ n9 ih43 =>
                intro u hn9 hk_u hex hbl9 H locs ls hP hD hS hl
                have hxl : u ^^^ k_6 < 256 := Nat.xor_lt_two_pow (n := 8) (by omega) (by omega)
                have hu0 : cn mn (u ^^^ k_6) a_1 b_2 = 0 → 1 ≤ u := fa_pos hex
                have e9 : (cnF mn a_1 b_2) (u ^^^ k_6) = cn mn (u ^^^ k_6) a_1 b_2 := rfl
                refine lv_aload_n hx hb dX9_farthest_43 rfl (lv_at hl 1 rfl) ?_
                refine lv_iconst (v := 0) hx hb dX9_farthest_44 (by decide +kernel) ?_
                refine lv_iload hx hb dX9_farthest_45 (lv_at hl 0 rfl) ?_
                refine lv_iload_n hx hb dX9_farthest_47 rfl (lv_at hl 4 rfl) ?_
                refine lv_ixor hx hb dX9_farthest_48 ?_
                refine my_eqi (y := nI (u ^^^ k_6)) (fb_xorI _ _) ?_
                try have hxl_10 : u ^^^ k_6 < 256 := Nat.xor_lt_two_pow (n := 8) (by omega) (by omega)
                refine my_gpI (my_pV (As := [.int 0, .int (nI (u ^^^ k_6))]) (rest := []) (ci := 9) ⟨hx, hb, hml, hown, hts⟩ (cwV 2 hts gX9_farthest_X9_times rfl rfl rfl (by decide +kernel) ⟨Nat.le_of_ble_eq_true rfl, Nat.le_of_ble_eq_true rfl⟩) hN hK hP [0, 2] rfl 0 rfl rfl rfl rfl hl.1 rfl (Nat.le_of_ble_eq_true rfl) dX9_farthest_49 ⟨Nat.le_of_ble_eq_true rfl, Nat.le_of_ble_eq_true rfl⟩  (kt_X9_times l D cI cJ cK m0 a_row a_tape a_number a_read a_readBits a_stands a_parted a_bitsWere a_stood a_chosen a_bestChosen a_often a_sorted a_risen a_risenWays (0 : Int32) m_told m_taped m_at m_to m_many m_readMany m_fewest m_size mf_9 (u ^^^ k_6) (cnF mn a_1 b_2) (by first | assumption | omega | decide +kernel) (by first | assumption | omega | decide +kernel) (by first | assumption | omega | decide +kernel) (by first | assumption | omega | decide +kernel) (by first | assumption | omega | decide +kernel) (by first | assumption | omega | decide +kernel) (by first | assumption | omega | decide +kernel) (by first | assumption | omega | decide +kernel) (hcn0) (cnF_64 (by omega)))) (fun r hp => ?_)
                obtain ⟨t_11, rfl, htm, hq_12⟩ := hp
                refine lv_if_ne (tgt := 61) hx hb dX9_farthest_52 (by decide) (fun c52 => ?_) (fun c52 => ?_)
                ·
                  have d52 : ((t_11 : Nat) : Int) ≠ (0 : Int) := my_ne c52 (nI_toInt (by omega)) (by decide +kernel)
                  have hfd := bl_ne (c := (axF (cnF mn a_1 b_2) k_6)) (x := (u : Int)) rfl htm (by omega)
                  have hu9 : (nI u).toInt = (u : Int) := nI_toInt (by omega)
                  refine lv_aload_n hx hb dX9_farthest_61 rfl (lv_at hl 1 rfl) ?_
                  refine lv_iconst (v := 0) hx hb dX9_farthest_62 (by decide +kernel) ?_
                  refine va_put (ci := 9) (v := .int 0) (ty := (.int)) (C := RX9) (T := TX9) (N := 24) hx hb hts hi9 tyX9 tyX9_ok nmX9 hown hK hP hD hS 0 rfl rfl 1 (by decide) fl11 (fun _ h9 => h9) rfl (by decide +kernel) rfl rfl (Nat.le_of_ble_eq_true rfl) dX9_farthest_63 (fun H locs hP hD hS => ?_)
                  have hP : va_P D vwCl (wl_k_X9_farthest cI cJ cK m0 a_row a_tape a_number a_read a_readBits a_stands a_parted a_bitsWere a_stood a_chosen a_bestChosen a_often a_sorted a_risen a_risenWays 0 0 (nI m_taped) (nI m_at) (nI m_to) (nI m_many) (nI m_readMany) m_fewest (nI m_size) mn mf_9 mr) H := hP
                  have hD : va_D A (wl_k_X9_farthest cI cJ cK m0 a_row a_tape a_number a_read a_readBits a_stands a_parted a_bitsWere a_stood a_chosen a_bestChosen a_often a_sorted a_risen a_risenWays 0 0 (nI m_taped) (nI m_at) (nI m_to) (nI m_many) (nI m_readMany) m_fewest (nI m_size) mn mf_9 mr) := hD
                  refine lv_aload_n hx hb dX9_farthest_66 rfl (lv_at hl 1 rfl) ?_
                  refine lv_iload hx hb dX9_farthest_67 (lv_at hl 0 rfl) ?_
                  refine lv_iload_n hx hb dX9_farthest_69 rfl (lv_at hl 4 rfl) ?_
                  refine lv_ixor hx hb dX9_farthest_70 ?_
                  refine my_eqi (y := nI (u ^^^ k_6)) (fb_xorI _ _) ?_
                  try have hxl_13 : u ^^^ k_6 < 256 := Nat.xor_lt_two_pow (n := 8) (by omega) (by omega)
                  refine lv_i2l (v := lN (u ^^^ k_6)) hx hb dX9_farthest_71 (nI_l (by omega)) ?_
                  refine my_goVS (wc := (wl_k_X9_enters cI cJ cK m0 a_row a_tape a_number a_read a_readBits a_stands a_parted a_bitsWere a_stood a_chosen a_bestChosen a_often a_sorted a_risen a_risenWays 0 0 (nI m_taped) (nI m_at) (nI m_to) (nI m_many) (nI m_readMany) m_fewest (nI m_size) mr)) hP hD hS hA [0, 3] rfl [some 0, none, none, some 1] (by decide +kernel) (my_cV (As := [.long (lN (u ^^^ k_6))]) (rest := []) (ci := 9) (wc := (wl_k_X9_enters cI cJ cK m0 a_row a_tape a_number a_read a_readBits a_stands a_parted a_bitsWere a_stood a_chosen a_bestChosen a_often a_sorted a_risen a_risenWays 0 0 (nI m_taped) (nI m_at) (nI m_to) (nI m_many) (nI m_readMany) m_fewest (nI m_size) mr)) ⟨hx, hb, hml, hown, hts⟩ (cwV 1 hts gX9_farthest_X9_enters rfl rfl rfl (by decide +kernel) ⟨Nat.le_of_ble_eq_true rfl, Nat.le_of_ble_eq_true rfl⟩) hN hK hP hD [0, 3] rfl (by decide) rfl 0 rfl rfl rfl rfl hl.1 rfl (Nat.le_of_ble_eq_true rfl) dX9_farthest_72 ⟨Nat.le_of_ble_eq_true rfl, Nat.le_of_ble_eq_true rfl⟩  ((k_X9_enters l D cI cJ cK m0 a_row a_tape a_number a_read a_readBits a_stands a_parted a_bitsWere a_stood a_chosen a_bestChosen a_often a_sorted a_risen a_risenWays (0 : Int32) 0 m_taped m_at m_to m_many m_readMany m_fewest m_size mr (lN (u ^^^ k_6)) (by first | assumption | omega | decide +kernel) (by first | assumption | omega | decide +kernel) (by first | assumption | omega | decide +kernel) (by first | assumption | omega | decide +kernel) (by first | assumption | omega | decide +kernel) (by first | assumption | omega | decide +kernel) (by first | assumption | omega | decide +kernel) (by first | assumption | omega | decide +kernel)) _)) (fun u H locs hp hPD hS => ?_)
                  obtain ⟨m_told_14, mr_15, rfl, hhz_m_told_16, ht_17⟩ := hp
                  obtain ⟨hP, hD⟩ := hPD rfl
                  have hP : va_P D vwCl (wl_k_X9_farthest cI cJ cK m0 a_row a_tape a_number a_read a_readBits a_stands a_parted a_bitsWere a_stood a_chosen a_bestChosen a_often a_sorted a_risen a_risenWays 0 (nI m_told_14) (nI m_taped) (nI m_at) (nI m_to) (nI m_many) (nI m_readMany) m_fewest (nI m_size) mn mf_9 mr_15) H := hP
                  have hD : va_D A (wl_k_X9_farthest cI cJ cK m0 a_row a_tape a_number a_read a_readBits a_stands a_parted a_bitsWere a_stood a_chosen a_bestChosen a_often a_sorted a_risen a_risenWays 0 (nI m_told_14) (nI m_taped) (nI m_at) (nI m_to) (nI m_many) (nI m_readMany) m_fewest (nI m_size) mn mf_9 mr_15) := hD
                  refine lv_aload_n hx hb dX9_farthest_75 rfl (lv_at hl 1 rfl) ?_
                  refine lv_aload_n hx hb dX9_farthest_76 rfl (lv_at hl 1 rfl) ?_
                  refine lv_iconst (v := 0) hx hb dX9_farthest_77 (by decide +kernel) ?_
                  refine lv_iload hx hb dX9_farthest_78 (lv_at hl 0 rfl) ?_
                  refine lv_iload_n hx hb dX9_farthest_80 rfl (lv_at hl 4 rfl) ?_
                  refine lv_ixor hx hb dX9_farthest_81 ?_
                  refine my_eqi (y := nI (u ^^^ k_6)) (fb_xorI _ _) ?_
                  try have hxl_18 : u ^^^ k_6 < 256 := Nat.xor_lt_two_pow (n := 8) (by omega) (by omega)
                  refine my_gpI (my_pV (As := [.int 0, .int (nI (u ^^^ k_6))]) (rest := [.ref m0]) (ci := 9) ⟨hx, hb, hml, hown, hts⟩ (cwV 2 hts gX9_farthest_X9_times rfl rfl rfl (by decide +kernel) ⟨Nat.le_of_ble_eq_true rfl, Nat.le_of_ble_eq_true rfl⟩) hN hK hP [0, 2] rfl 0 rfl rfl rfl rfl hl.1 rfl (Nat.le_of_ble_eq_true rfl) dX9_farthest_82 ⟨Nat.le_of_ble_eq_true rfl, Nat.le_of_ble_eq_true rfl⟩  (kt_X9_times l D cI cJ cK m0 a_row a_tape a_number a_read a_readBits a_stands a_parted a_bitsWere a_stood a_chosen a_bestChosen a_often a_sorted a_risen a_risenWays (0 : Int32) m_told_14 m_taped m_at m_to m_many m_readMany m_fewest m_size mf_9 (u ^^^ k_6) (cnF mn a_1 b_2) (by first | assumption | omega | decide +kernel) (by first | assumption | omega | decide +kernel) (by first | assumption | omega | decide +kernel) (by first | assumption | omega | decide +kernel) (by first | assumption | omega | decide +kernel) (by first | assumption | omega | decide +kernel) (by first | assumption | omega | decide +kernel) (by first | assumption | omega | decide +kernel) (hcn0) (cnF_64 (by omega)))) (fun r hp => ?_)
                  obtain ⟨t_19, rfl, htm, hq_20⟩ := hp
                  refine lv_i2l (v := lN t_19) hx hb dX9_farthest_85 (nI_l (by omega)) ?_
                  refine my_goVS (wc := (wl_k_X9_enters cI cJ cK m0 a_row a_tape a_number a_read a_readBits a_stands a_parted a_bitsWere a_stood a_chosen a_bestChosen a_often a_sorted a_risen a_risenWays 0 (nI m_told_14) (nI m_taped) (nI m_at) (nI m_to) (nI m_many) (nI m_readMany) m_fewest (nI m_size) mr_15)) hP hD hS hA [0, 3] rfl [some 0, none, none, some 1] (by decide +kernel) (my_cV (As := [.long (lN t_19)]) (rest := []) (ci := 9) (wc := (wl_k_X9_enters cI cJ cK m0 a_row a_tape a_number a_read a_readBits a_stands a_parted a_bitsWere a_stood a_chosen a_bestChosen a_often a_sorted a_risen a_risenWays 0 (nI m_told_14) (nI m_taped) (nI m_at) (nI m_to) (nI m_many) (nI m_readMany) m_fewest (nI m_size) mr_15)) ⟨hx, hb, hml, hown, hts⟩ (cwV 1 hts gX9_farthest_X9_enters rfl rfl rfl (by decide +kernel) ⟨Nat.le_of_ble_eq_true rfl, Nat.le_of_ble_eq_true rfl⟩) hN hK hP hD [0, 3] rfl (by decide) rfl 0 rfl rfl rfl rfl hl.1 rfl (Nat.le_of_ble_eq_true rfl) dX9_farthest_86 ⟨Nat.le_of_ble_eq_true rfl, Nat.le_of_ble_eq_true rfl⟩  ((k_X9_enters l D cI cJ cK m0 a_row a_tape a_number a_read a_readBits a_stands a_parted a_bitsWere a_stood a_chosen a_bestChosen a_often a_sorted a_risen a_risenWays (0 : Int32) m_told_14 m_taped m_at m_to m_many m_readMany m_fewest m_size mr_15 (lN t_19) (by first | assumption | omega | decide +kernel) (by first | assumption | omega | decide +kernel) (by first | assumption | omega | decide +kernel) (by first | assumption | omega | decide +kernel) (by first | assumption | omega | decide +kernel) (by first | assumption | omega | decide +kernel) (by first | assumption | omega | decide +kernel) (by first | assumption | omega | decide +kernel)) _)) (fun u H locs hp hPD hS => ?_)
                  obtain ⟨m_told_21, mr_22, rfl, hhz_m_told_23, ht_24⟩ := hp
                  obtain ⟨hP, hD⟩ := hPD rfl
                  have hP : va_P D vwCl (wl_k_X9_farthest cI cJ cK m0 a_row a_tape a_number a_read a_readBits a_stands a_parted a_bitsWere a_stood a_chosen a_bestChosen a_often a_sorted a_risen a_risenWays 0 (nI m_told_21) (nI m_taped) (nI m_at) (nI m_to) (nI m_many) (nI m_readMany) m_fewest (nI m_size) mn mf_9 mr_22) H := hP
                  have hD : va_D A (wl_k_X9_farthest cI cJ cK m0 a_row a_tape a_number a_read a_readBits a_stands a_parted a_bitsWere a_stood a_chosen a_bestChosen a_often a_sorted a_risen a_risenWays 0 (nI m_told_21) (nI m_taped) (nI m_at) (nI m_to) (nI m_many) (nI m_readMany) m_fewest (nI m_size) mn mf_9 mr_22) := hD
                  refine lv_iload hx hb dX9_farthest_89 (lv_at hl 0 rfl) ?_
                  have hsI_l9 : (nI a_1).toInt = ((a_1 : Nat) : Int) := nI_toInt (by omega)
                  have hsN_l9 : (nI a_1).toInt.toNat = a_1 := nIt (by omega)
                  have hsI_r9 : (nI b_2).toInt = ((b_2 : Nat) : Int) := nI_toInt (by omega)
                  have hsN_r9 : (nI b_2).toInt.toNat = b_2 := nIt (by omega)
                  have hsI_w9 : (nI k_6).toInt = ((k_6 : Nat) : Int) := nI_toInt (by omega)
                  have hsN_w9 : (nI k_6).toInt.toNat = k_6 := nIt (by omega)
                  exact my_retI hx hb hr hlocks hK hS (wl_k_X9_farthest cI cJ cK m0 a_row a_tape a_number a_read a_readBits a_stands a_parted a_bitsWere a_stood a_chosen a_bestChosen a_often a_sorted a_risen a_risenWays 0 (nI m_told_21) (nI m_taped) (nI m_at) (nI m_to) (nI m_many) (nI m_readMany) m_fewest (nI m_size) mn mf_9 mr_22) hP hD (Or.inr (Or.inr (⟨0, m_told_21, mf_9, mr_22, rfl, (by first | assumption | omega | trivial | decide +kernel), (by first | assumption | omega | trivial | decide +kernel), (by first | assumption | omega | trivial | decide +kernel), (by first | assumption | omega | trivial | decide +kernel), (by first | assumption | omega | trivial | decide +kernel), (by first | assumption | omega | trivial | decide +kernel), (by rw [hsN_l9, hsN_r9, hsN_w9]; exact bl_mk (by omega) (by omega) (by rw [hu9]; exact hfd) (by rw [hu9]; exact hbl9)), (by first | assumption | omega | trivial | decide +kernel)⟩))) dX9_farthest_91
                ·
                  have d52 : ((t_11 : Nat) : Int) = (0 : Int) := my_eq c52 (nI_toInt (by omega)) (by decide +kernel)
                  refine lv_iinc (v := nI (u - 1)) (lv' := [(4, .int (nI (u - 1))), (0, .ref m0), (1, .int (nI a_1)), (2, .int (nI b_2)), (3, .int (nI k_6))]) hx hb dX9_farthest_55 hl (k := 0) rfl (my_decG (by omega)) (by decide) rfl (fun ls hl => ?_)
                  refine lv_goto (tgt := 43) hx hb dX9_farthest_58 (by decide) ?_
                  exact ih43  (u - 1) (by omega) (by first | assumption | omega | decide +kernel) (fa_step hex (by omega)) (bl_back (c := (axF (cnF mn a_1 b_2) k_6)) (x := (u : Int)) hbl9 rfl htm (by omega) (by omega)) _ _ ls hP hD hS (lv_sub hl [0, 1, 2, 3, 4] rfl)
            exact loop43 (255 + 1) 255 (Nat.lt_succ_self _) (by first | assumption | omega | decide +kernel) (fa_start hR_mn (by omega) (by omega) (by omega)) (fun q h1 h2 => absurd h1 (by omega)) _ _ ls hP hD hS (lv_sub hl [0, 1, 2, 3, 4] rfl)
          ·
            have d25 : ((a_1 : Nat) : Int) = ((b_2 : Nat) : Int) := my_eq c25 (nI_toInt (by omega)) (nI_toInt (by omega))
            refine lv_bipush (v := (-2)) hx hb dX9_farthest_28 (by decide +kernel) ?_
            have hsI_l9 : (nI a_1).toInt = ((a_1 : Nat) : Int) := nI_toInt (by omega)
            have hsN_l9 : (nI a_1).toInt.toNat = a_1 := nIt (by omega)
            have hsI_r9 : (nI b_2).toInt = ((b_2 : Nat) : Int) := nI_toInt (by omega)
            have hsN_r9 : (nI b_2).toInt.toNat = b_2 := nIt (by omega)
            have hsI_w9 : (nI k_6).toInt = ((k_6 : Nat) : Int) := nI_toInt (by omega)
            have hsN_w9 : (nI k_6).toInt.toNat = k_6 := nIt (by omega)
            exact my_retI hx hb hr hlocks hK hS (wl_k_X9_farthest cI cJ cK m0 a_row a_tape a_number a_read a_readBits a_stands a_parted a_bitsWere a_stood a_chosen a_bestChosen a_often a_sorted a_risen a_risenWays 0 (nI m_told) (nI m_taped) (nI m_at) (nI m_to) (nI m_many) (nI m_readMany) m_fewest (nI m_size) mn mf mr) hP hD (Or.inr (Or.inl ⟨0, m_told, mf, mr, rfl, rfl, (by first | assumption | omega | trivial | decide +kernel), (by first | assumption | omega | trivial | decide +kernel), (by first | assumption | omega | trivial | decide +kernel), (by first | assumption | omega | trivial | decide +kernel), (by first | assumption | omega | trivial | decide +kernel), (by first | assumption | omega | trivial | decide +kernel), (by first | assumption | omega | trivial | decide +kernel), (by first | assumption | omega | trivial | decide +kernel)⟩)) dX9_farthest_30
        ·
          exact absurd c18 (by decide +kernel)
      ·
        refine lv_if_ne (tgt := 23) hx hb dX9_farthest_18 (by decide) (fun c18 => ?_) (fun c18 => ?_)
        ·
          exact absurd c18 (by decide +kernel)
        ·
          refine lv_iconst (v := (-1)) hx hb dX9_farthest_21 (by decide +kernel) ?_
          have hsI_l9 : (nI a_1).toInt = ((a_1 : Nat) : Int) := nI_toInt (by omega)
          have hsN_l9 : (nI a_1).toInt.toNat = a_1 := nIt (by omega)
          have hsI_r9 : (nI b_2).toInt = ((b_2 : Nat) : Int) := nI_toInt (by omega)
          have hsN_r9 : (nI b_2).toInt.toNat = b_2 := nIt (by omega)
          exact my_retI hx hb hr hlocks hK hS (wl_k_X9_farthest cI cJ cK m0 a_row a_tape a_number a_read a_readBits a_stands a_parted a_bitsWere a_stood a_chosen a_bestChosen a_often a_sorted a_risen a_risenWays 0 (nI m_told) (nI m_taped) (nI m_at) (nI m_to) (nI m_many) (nI m_readMany) m_fewest (nI m_size) mn mf mr) hP hD (Or.inl ⟨0, rfl, rfl, (by first | assumption | omega | trivial | decide +kernel)⟩) dX9_farthest_22
  ·
    refine lv_if_eq (tgt := 21) hx hb dX9_farthest_11 (by decide) (fun c11 => ?_) (fun c11 => ?_)
    ·
      refine lv_iconst (v := (-1)) hx hb dX9_farthest_21 (by decide +kernel) ?_
      exact my_retI hx hb hr hlocks hK hS (wl_k_X9_farthest cI cJ cK m0 a_row a_tape a_number a_read a_readBits a_stands a_parted a_bitsWere a_stood a_chosen a_bestChosen a_often a_sorted a_risen a_risenWays 0 (nI m_told) (nI m_taped) (nI m_at) (nI m_to) (nI m_many) (nI m_readMany) m_fewest (nI m_size) mn mf mr) hP hD (Or.inl ⟨0, rfl, rfl, (by first | assumption | omega | trivial | decide +kernel)⟩) dX9_farthest_22
    ·
      exact absurd c11 (by decide +kernel)
abbrev wl_k_X9_fit (cI cJ cK : ClassId) (m0 : Nat) (a_row : Nat) (a_tape : Nat) (a_number : Nat) (a_read : Nat) (a_readBits : Nat) (a_stands : Nat) (a_parted : Nat) (a_bitsWere : Nat) (a_stood : Nat) (a_chosen : Nat) (a_bestChosen : Nat) (a_often : Nat) (a_sorted : Nat) (a_risen : Nat) (a_risenWays : Nat) (v0_ : Int32) (v1_ : Int32) (v2_ : Int32) (v3_ : Int32) (v4_ : Int32) (v5_ : Int32) (v6_ : Int32) (v7_ : Int32) (v8_ : Int32) (v9_ : Nat → Int32) (v10_ : Nat → Int32) (v11_ : Nat → Int32) (v12_ : Nat → Int64) : va_W := [(m0, .inr (9, [.int v0_, .int v1_, .ref a_row, .ref a_tape, .int v2_, .int v3_, .int v4_, .int v5_, .ref a_number, .ref a_read, .int v6_, .ref a_readBits, .ref a_stands, .ref a_parted, .ref a_bitsWere, .ref a_stood, .ref a_chosen, .ref a_bestChosen, .int v7_, .ref a_often, .ref a_sorted, .int v8_, .ref a_risen, .ref a_risenWays])), (a_number, .inl (cI, 64, .inl v9_)), (a_often, .inl (cI, 512, .inl v10_)), (a_sorted, .inl (cI, 128, .inl v11_)), (a_row, .inl (cJ, 64, .inr (.inl v12_)))]
set_option maxHeartbeats 4000000 in
set_option maxRecDepth 100000 in
theorem k_X9_fit (l : Launch) (D : va_G) (cI cJ cK : ClassId) (m0 : Nat) (a_row : Nat) (a_tape : Nat) (a_number : Nat) (a_read : Nat) (a_readBits : Nat) (a_stands : Nat) (a_parted : Nat) (a_bitsWere : Nat) (a_stood : Nat) (a_chosen : Nat) (a_bestChosen : Nat) (a_often : Nat) (a_sorted : Nat) (a_risen : Nat) (a_risenWays : Nat) (m_thrown : Int32) (m_told : Nat) (m_taped : Nat) (m_at : Nat) (m_to : Nat) (m_many : Nat) (m_readMany : Nat) (m_fewest : Int32) (m_size : Nat) (mn : Nat → Int32) (mf : Nat → Int32) (mg : Nat → Int32) (mr : Nat → Int64) (l9 : Int32) (r9 : Int32) (k9 : Int32) (hz_m_told : m_told ≤ 64) (hz_m_taped : m_taped ≤ 100) (hz_m_at : m_at ≤ 100) (hz_m_to : m_to ≤ 100) (hz_m_many : m_many ≤ 64) (hz_m_readMany : m_readMany ≤ 64) (hz_m_size : m_size ≤ 64) (hR_mn : RB 0 255 mn) (hR_mg : RB 0 255 mg) : ctI l yX9_fit wsX9_fit ({ frames := 2, cells := 0, slots := 0, locals := 120 } : Room) D (tyIJ cI cJ cK) [.ref m0, .int l9, .int r9, .int k9] (wl_k_X9_fit cI cJ cK m0 a_row a_tape a_number a_read a_readBits a_stands a_parted a_bitsWere a_stood a_chosen a_bestChosen a_often a_sorted a_risen a_risenWays m_thrown (nI m_told) (nI m_taped) (nI m_at) (nI m_to) (nI m_many) (nI m_readMany) m_fewest (nI m_size) mn mf mg mr) (fun (r : Int32) (u : va_W) => (∃ (m_thrown' : Int32), u = (wl_k_X9_fit cI cJ cK m0 a_row a_tape a_number a_read a_readBits a_stands a_parted a_bitsWere a_stood a_chosen a_bestChosen a_often a_sorted a_risen a_risenWays m_thrown' (nI m_told) (nI m_taped) (nI m_at) (nI m_to) (nI m_many) (nI m_readMany) m_fewest (nI m_size) mn mf mg mr) ∧ r = (-1) ∧ (l9.toInt < 0 ∨ r9.toInt < l9.toInt ∨ m_many < r9.toInt ∨ k9.toInt < 0)) ∨ (∃ (t' : Nat) (m_thrown' : Int32) (m_told' : Nat) (m_size' : Nat) (mf' : Nat → Int32) (mg' : Nat → Int32) (mr' : Nat → Int64), u = (wl_k_X9_fit cI cJ cK m0 a_row a_tape a_number a_read a_readBits a_stands a_parted a_bitsWere a_stood a_chosen a_bestChosen a_often a_sorted a_risen a_risenWays m_thrown' (nI m_told') (nI m_taped) (nI m_at) (nI m_to) (nI m_many) (nI m_readMany) m_fewest (nI m_size') mn mf' mg' mr') ∧ r = nI t' ∧ m_told' ≤ 64 ∧ m_size' ≤ 64 ∧ RB 0 255 mg' ∧ 0 ≤ l9.toInt ∧ l9.toInt ≤ r9.toInt ∧ r9.toInt ≤ m_many ∧ 0 ≤ k9.toInt ∧ ftP mn l9.toInt.toNat r9.toInt.toNat k9.toInt t' ∧ m_told' = 1)) := by
  refine ctI.of (cc := cX9_fit) (maxL := 6) (ret := (some .int)) (by decide) rfl (Nat.le_of_ble_eq_true rfl) ?_
  intro p e s m below meth c ls A hx hb hr hts hown hml hlocks hname hA hK hN hP hD hS hl
  have hl : lv_has ls 6 [(0, .ref m0), (1, .int l9), (2, .int r9), (3, .int k9)] := hl
  have hown : s.vm.findClass RX9 = some m.cls := hown
  have hi9 : ∀ w ∈ u_ws RX9 TX9 24, w ∈ wsX9_fit := by decide +kernel
  have fl1 := hts (.fieldLink RX9 1 "PlaneColumnModel" "thrown" "I") (by decide +kernel)
  have fl11 := hts (.fieldLink RX9 11 "PlaneColumnModel" "told" "I") (by decide +kernel)
  have fl172 := hts (.fieldLink RX9 172 "PlaneColumnModel" "size" "I") (by decide +kernel)
  have fl79 := hts (.fieldLink RX9 79 "PlaneColumnModel" "sorted" "[I") (by decide +kernel)
  refine lv_aload_n hx hb dX9_fit_0 rfl (lv_at hl 0 rfl) ?_
  refine lv_iconst (v := 0) hx hb dX9_fit_1 (by decide +kernel) ?_
  refine va_put (ci := 9) (v := .int 0) (ty := (.int)) (C := RX9) (T := TX9) (N := 24) hx hb hts hi9 tyX9 tyX9_ok nmX9 hown hK hP hD hS 0 rfl rfl 0 (by decide) fl1 (fun _ h9 => h9) rfl (by decide +kernel) rfl rfl (Nat.le_of_ble_eq_true rfl) dX9_fit_2 (fun H locs hP hD hS => ?_)
  have hP : va_P D vwCl (wl_k_X9_fit cI cJ cK m0 a_row a_tape a_number a_read a_readBits a_stands a_parted a_bitsWere a_stood a_chosen a_bestChosen a_often a_sorted a_risen a_risenWays 0 (nI m_told) (nI m_taped) (nI m_at) (nI m_to) (nI m_many) (nI m_readMany) m_fewest (nI m_size) mn mf mg mr) H := hP
  have hD : va_D A (wl_k_X9_fit cI cJ cK m0 a_row a_tape a_number a_read a_readBits a_stands a_parted a_bitsWere a_stood a_chosen a_bestChosen a_often a_sorted a_risen a_risenWays 0 (nI m_told) (nI m_taped) (nI m_at) (nI m_to) (nI m_many) (nI m_readMany) m_fewest (nI m_size) mn mf mg mr) := hD
  refine lv_aload_n hx hb dX9_fit_5 rfl (lv_at hl 0 rfl) ?_
  refine lv_iload_n hx hb dX9_fit_6 rfl (lv_at hl 1 rfl) ?_
  refine lv_iload_n hx hb dX9_fit_7 rfl (lv_at hl 2 rfl) ?_
  refine my_gpI (my_pV (As := [.int l9, .int r9]) (rest := []) (ci := 9) ⟨hx, hb, hml, hown, hts⟩ (cwV 2 hts gX9_fit_X9_isSpan rfl rfl rfl (by decide +kernel) ⟨Nat.le_of_ble_eq_true rfl, Nat.le_of_ble_eq_true rfl⟩) hN hK hP [0] rfl 0 rfl rfl rfl rfl hl.1 rfl (Nat.le_of_ble_eq_true rfl) dX9_fit_8 ⟨Nat.le_of_ble_eq_true rfl, Nat.le_of_ble_eq_true rfl⟩  (k_X9_isSpan l D cI cJ cK m0 a_row a_tape a_number a_read a_readBits a_stands a_parted a_bitsWere a_stood a_chosen a_bestChosen a_often a_sorted a_risen a_risenWays (0 : Int32) m_told m_taped m_at m_to m_many m_readMany m_fewest m_size l9 r9 (by first | assumption | omega | decide +kernel) (by first | assumption | omega | decide +kernel) (by first | assumption | omega | decide +kernel) (by first | assumption | omega | decide +kernel) (by first | assumption | omega | decide +kernel) (by first | assumption | omega | decide +kernel) (by first | assumption | omega | decide +kernel))) (fun r hp => ?_)
  rcases hp with ⟨a_1, b_2, rfl, rfl, rfl, ha_3, hb_4⟩ | ⟨rfl, ho_5⟩
  ·
    refine lv_if_eq (tgt := 18) hx hb dX9_fit_11 (by decide) (fun c11 => ?_) (fun c11 => ?_)
    ·
      exact absurd c11 (by decide +kernel)
    ·
      refine lv_iload_n hx hb dX9_fit_14 rfl (lv_at hl 3 rfl) ?_
      refine lv_if_ge (tgt := 20) hx hb dX9_fit_15 (by decide) (fun c15 => ?_) (fun c15 => ?_)
      ·
        have d15 : k9.toInt ≥ (0 : Int) := my_ge c15 rfl (by decide +kernel)
        refine lv_aload_n hx hb dX9_fit_20 rfl (lv_at hl 0 rfl) ?_
        refine lv_iload_n hx hb dX9_fit_21 rfl (lv_at hl 1 rfl) ?_
        refine lv_iload_n hx hb dX9_fit_22 rfl (lv_at hl 2 rfl) ?_
        refine my_goVS (wc := (wl_k_X9_sorts cI cJ cK m0 a_row a_tape a_number a_read a_readBits a_stands a_parted a_bitsWere a_stood a_chosen a_bestChosen a_often a_sorted a_risen a_risenWays 0 (nI m_told) (nI m_taped) (nI m_at) (nI m_to) (nI m_many) (nI m_readMany) m_fewest (nI m_size) mn mf mg)) hP hD hS hA [0, 1, 2, 3] rfl [some 0, some 1, some 2, some 3] (by decide +kernel) (my_cV (As := [.int (nI a_1), .int (nI b_2)]) (rest := []) (ci := 9) (wc := (wl_k_X9_sorts cI cJ cK m0 a_row a_tape a_number a_read a_readBits a_stands a_parted a_bitsWere a_stood a_chosen a_bestChosen a_often a_sorted a_risen a_risenWays 0 (nI m_told) (nI m_taped) (nI m_at) (nI m_to) (nI m_many) (nI m_readMany) m_fewest (nI m_size) mn mf mg)) ⟨hx, hb, hml, hown, hts⟩ (cwV 2 hts gX9_fit_X9_sorts rfl rfl rfl (by decide +kernel) ⟨Nat.le_of_ble_eq_true rfl, Nat.le_of_ble_eq_true rfl⟩) hN hK hP hD [0, 1, 2, 3] rfl (by decide) rfl 0 rfl rfl rfl rfl hl.1 rfl (Nat.le_of_ble_eq_true rfl) dX9_fit_23 ⟨Nat.le_of_ble_eq_true rfl, Nat.le_of_ble_eq_true rfl⟩  ((k_X9_sorts l D cI cJ cK m0 a_row a_tape a_number a_read a_readBits a_stands a_parted a_bitsWere a_stood a_chosen a_bestChosen a_often a_sorted a_risen a_risenWays (0 : Int32) m_told m_taped m_at m_to m_many m_readMany m_fewest m_size mn mf mg a_1 b_2 (by first | assumption | omega | decide +kernel) (by first | assumption | omega | decide +kernel) (by first | assumption | omega | decide +kernel) (by first | assumption | omega | decide +kernel) (by first | assumption | omega | decide +kernel) (by first | assumption | omega | decide +kernel) (by first | assumption | omega | decide +kernel) hR_mn hR_mg (by first | assumption | omega | decide +kernel) (by first | assumption | omega | decide +kernel)) _)) (fun u H locs hp hPD hS => ?_)
        obtain ⟨m_size_6, mf_7, mg_8, rfl, hhz_m_size_9, hR_mg_8, hcs, hsz, hso, hsv⟩ := hp
        obtain ⟨hP, hD⟩ := hPD rfl
        have hP : va_P D vwCl (wl_k_X9_fit cI cJ cK m0 a_row a_tape a_number a_read a_readBits a_stands a_parted a_bitsWere a_stood a_chosen a_bestChosen a_often a_sorted a_risen a_risenWays 0 (nI m_told) (nI m_taped) (nI m_at) (nI m_to) (nI m_many) (nI m_readMany) m_fewest (nI m_size_6) mn mf_7 mg_8 mr) H := hP
        have hD : va_D A (wl_k_X9_fit cI cJ cK m0 a_row a_tape a_number a_read a_readBits a_stands a_parted a_bitsWere a_stood a_chosen a_bestChosen a_often a_sorted a_risen a_risenWays 0 (nI m_told) (nI m_taped) (nI m_at) (nI m_to) (nI m_many) (nI m_readMany) m_fewest (nI m_size_6) mn mf_7 mg_8 mr) := hD
        refine lv_iconst (v := 0) hx hb dX9_fit_26 (by decide +kernel) ?_
        refine lv_istore (lv' := [(4, .int 0), (0, .ref m0), (1, .int (nI a_1)), (2, .int (nI b_2)), (3, .int k9)]) hx hb dX9_fit_27 hl (by decide) rfl (fun ls hl => ?_)
        refine lv_iconst (v := 0) hx hb dX9_fit_29 (by decide +kernel) ?_
        refine lv_istore (lv' := [(5, .int 0), (4, .int 0), (0, .ref m0), (1, .int (nI a_1)), (2, .int (nI b_2)), (3, .int k9)]) hx hb dX9_fit_30 hl (by decide) rfl (fun ls hl => ?_)
        have loop32 : ∀ (n9 : Nat) (x : Int32) (k : Nat), 64 - k < n9 → (k ≤ 64) → (k ≤ b_2 - a_1) → (x.toInt = ((fb_sm (fun i => (mg_8 i).toInt.toNat) k : Nat) : Int)) → (x.toInt ≤ k9.toInt) → ∀ (H : Heap) (locs : List Loc) (ls : Array Slot), va_P D vwCl (wl_k_X9_fit cI cJ cK m0 a_row a_tape a_number a_read a_readBits a_stands a_parted a_bitsWere a_stood a_chosen a_bestChosen a_often a_sorted a_risen a_risenWays 0 (nI m_told) (nI m_taped) (nI m_at) (nI m_to) (nI m_many) (nI m_readMany) m_fewest (nI m_size_6) mn mf_7 mg_8 mr) H → va_D A (wl_k_X9_fit cI cJ cK m0 a_row a_tape a_number a_read a_readBits a_stands a_parted a_bitsWere a_stood a_chosen a_bestChosen a_often a_sorted a_risen a_risenWays 0 (nI m_told) (nI m_taped) (nI m_at) (nI m_to) (nI m_many) (nI m_readMany) m_fewest (nI m_size_6) mn mf_7 mg_8 mr) → va_S A s.heap H locs → lv_has ls 6 [(5, .int x), (4, .int (nI k)), (0, .ref m0), (1, .int (nI a_1)), (2, .int (nI b_2)), (3, .int k9)] → W p l e ({ frames := 2, cells := 0, slots := 0, locals := 120 } : Room) s m [.ref m0, .int (nI a_1), .int (nI b_2), .int k9].toArray below meth c H locs 0 0 (MQ below (va_Qi (fun (r : Int32) (u : va_W) => (∃ (m_thrown' : Int32), u = (wl_k_X9_fit cI cJ cK m0 a_row a_tape a_number a_read a_readBits a_stands a_parted a_bitsWere a_stood a_chosen a_bestChosen a_often a_sorted a_risen a_risenWays m_thrown' (nI m_told) (nI m_taped) (nI m_at) (nI m_to) (nI m_many) (nI m_readMany) m_fewest (nI m_size) mn mf mg mr) ∧ r = (-1) ∧ ((nI a_1).toInt < 0 ∨ (nI b_2).toInt < (nI a_1).toInt ∨ m_many < (nI b_2).toInt ∨ k9.toInt < 0)) ∨ (∃ (t' : Nat) (m_thrown' : Int32) (m_told' : Nat) (m_size' : Nat) (mf' : Nat → Int32) (mg' : Nat → Int32) (mr' : Nat → Int64), u = (wl_k_X9_fit cI cJ cK m0 a_row a_tape a_number a_read a_readBits a_stands a_parted a_bitsWere a_stood a_chosen a_bestChosen a_often a_sorted a_risen a_risenWays m_thrown' (nI m_told') (nI m_taped) (nI m_at) (nI m_to) (nI m_many) (nI m_readMany) m_fewest (nI m_size') mn mf' mg' mr') ∧ r = nI t' ∧ m_told' ≤ 64 ∧ m_size' ≤ 64 ∧ RB 0 255 mg' ∧ 0 ≤ (nI a_1).toInt ∧ (nI a_1).toInt ≤ (nI b_2).toInt ∧ (nI b_2).toInt ≤ m_many ∧ 0 ≤ k9.toInt ∧ ftP mn (nI a_1).toInt.toNat (nI b_2).toInt.toNat k9.toInt t' ∧ m_told' = 1)) (my_B D (tyIJ cI cJ cK) A) A) [.ref m0, .int (nI a_1), .int (nI b_2), .int k9].toArray s 0 0 A) (F0 m 32 ls []) := by
          intro n9
          induction n9 with
          | zero =>
            intro x k hn9
            exact absurd hn9 (Nat.not_lt_zero _)
          | succ n9 ih32 =>
            intro x k hn9 hk_k hkb hxs hxk H locs ls hP hD hS hl
            have hsz9 := cnF_sum hR_mn (a := a_1) (b := b_2) (by omega)
            have hbd := sm_bd hsv k (by omega)
            have hrg := fun h9 => sr_rng hsv (k := k) h9
            refine lv_iload hx hb dX9_fit_32 (lv_at hl 1 rfl) ?_
            refine lv_aload_n hx hb dX9_fit_34 rfl (lv_at hl 2 rfl) ?_
            refine va_get (ci := 9) (v := .int (nI m_size_6)) (C := RX9) (T := TX9) (N := 24) hx hb hts hi9 hown hK hP 0 rfl rfl 21 (by decide) fl172 (fun _ h9 => h9) rfl dX9_fit_35 ?_
            refine lv_icmp_ge (tgt := 73) hx hb dX9_fit_38 (by decide) (fun c38 => ?_) (fun c38 => ?_)
            ·
              have d38 : ((k : Nat) : Int) ≥ ((m_size_6 : Nat) : Int) := my_ge c38 (nI_toInt (by omega)) (nI_toInt (by omega))
              refine lv_aload_n hx hb dX9_fit_73 rfl (lv_at hl 2 rfl) ?_
              refine lv_iconst (v := 0) hx hb dX9_fit_74 (by decide +kernel) ?_
              refine va_put (ci := 9) (v := .int 0) (ty := (.int)) (C := RX9) (T := TX9) (N := 24) hx hb hts hi9 tyX9 tyX9_ok nmX9 hown hK hP hD hS 0 rfl rfl 1 (by decide) fl11 (fun _ h9 => h9) rfl (by decide +kernel) rfl rfl (Nat.le_of_ble_eq_true rfl) dX9_fit_75 (fun H locs hP hD hS => ?_)
              have hP : va_P D vwCl (wl_k_X9_fit cI cJ cK m0 a_row a_tape a_number a_read a_readBits a_stands a_parted a_bitsWere a_stood a_chosen a_bestChosen a_often a_sorted a_risen a_risenWays 0 0 (nI m_taped) (nI m_at) (nI m_to) (nI m_many) (nI m_readMany) m_fewest (nI m_size_6) mn mf_7 mg_8 mr) H := hP
              have hD : va_D A (wl_k_X9_fit cI cJ cK m0 a_row a_tape a_number a_read a_readBits a_stands a_parted a_bitsWere a_stood a_chosen a_bestChosen a_often a_sorted a_risen a_risenWays 0 0 (nI m_taped) (nI m_at) (nI m_to) (nI m_many) (nI m_readMany) m_fewest (nI m_size_6) mn mf_7 mg_8 mr) := hD
              refine lv_aload_n hx hb dX9_fit_78 rfl (lv_at hl 2 rfl) ?_
              refine lv_iload hx hb dX9_fit_79 (lv_at hl 0 rfl) ?_
              refine lv_i2l (v := x.toInt64) hx hb dX9_fit_81 rfl ?_
              refine my_goVS (wc := (wl_k_X9_enters cI cJ cK m0 a_row a_tape a_number a_read a_readBits a_stands a_parted a_bitsWere a_stood a_chosen a_bestChosen a_often a_sorted a_risen a_risenWays 0 0 (nI m_taped) (nI m_at) (nI m_to) (nI m_many) (nI m_readMany) m_fewest (nI m_size_6) mr)) hP hD hS hA [0, 4] rfl [some 0, none, none, none, some 1] (by decide +kernel) (my_cV (As := [.long x.toInt64]) (rest := []) (ci := 9) (wc := (wl_k_X9_enters cI cJ cK m0 a_row a_tape a_number a_read a_readBits a_stands a_parted a_bitsWere a_stood a_chosen a_bestChosen a_often a_sorted a_risen a_risenWays 0 0 (nI m_taped) (nI m_at) (nI m_to) (nI m_many) (nI m_readMany) m_fewest (nI m_size_6) mr)) ⟨hx, hb, hml, hown, hts⟩ (cwV 1 hts gX9_fit_X9_enters rfl rfl rfl (by decide +kernel) ⟨Nat.le_of_ble_eq_true rfl, Nat.le_of_ble_eq_true rfl⟩) hN hK hP hD [0, 4] rfl (by decide) rfl 0 rfl rfl rfl rfl hl.1 rfl (Nat.le_of_ble_eq_true rfl) dX9_fit_82 ⟨Nat.le_of_ble_eq_true rfl, Nat.le_of_ble_eq_true rfl⟩  ((k_X9_enters l D cI cJ cK m0 a_row a_tape a_number a_read a_readBits a_stands a_parted a_bitsWere a_stood a_chosen a_bestChosen a_often a_sorted a_risen a_risenWays (0 : Int32) 0 m_taped m_at m_to m_many m_readMany m_fewest m_size_6 mr x.toInt64 (by first | assumption | omega | decide +kernel) (by first | assumption | omega | decide +kernel) (by first | assumption | omega | decide +kernel) (by first | assumption | omega | decide +kernel) (by first | assumption | omega | decide +kernel) (by first | assumption | omega | decide +kernel) (by first | assumption | omega | decide +kernel) (by first | assumption | omega | decide +kernel)) _)) (fun u H locs hp hPD hS => ?_)
              obtain ⟨m_told_10, mr_11, rfl, hhz_m_told_12, ht_13⟩ := hp
              obtain ⟨hP, hD⟩ := hPD rfl
              have hP : va_P D vwCl (wl_k_X9_fit cI cJ cK m0 a_row a_tape a_number a_read a_readBits a_stands a_parted a_bitsWere a_stood a_chosen a_bestChosen a_often a_sorted a_risen a_risenWays 0 (nI m_told_10) (nI m_taped) (nI m_at) (nI m_to) (nI m_many) (nI m_readMany) m_fewest (nI m_size_6) mn mf_7 mg_8 mr_11) H := hP
              have hD : va_D A (wl_k_X9_fit cI cJ cK m0 a_row a_tape a_number a_read a_readBits a_stands a_parted a_bitsWere a_stood a_chosen a_bestChosen a_often a_sorted a_risen a_risenWays 0 (nI m_told_10) (nI m_taped) (nI m_at) (nI m_to) (nI m_many) (nI m_readMany) m_fewest (nI m_size_6) mn mf_7 mg_8 mr_11) := hD
              refine lv_iload hx hb dX9_fit_85 (lv_at hl 1 rfl) ?_
              have hsI_l9 : (nI a_1).toInt = ((a_1 : Nat) : Int) := nI_toInt (by omega)
              have hsN_l9 : (nI a_1).toInt.toNat = a_1 := nIt (by omega)
              have hsI_r9 : (nI b_2).toInt = ((b_2 : Nat) : Int) := nI_toInt (by omega)
              have hsN_r9 : (nI b_2).toInt.toNat = b_2 := nIt (by omega)
              exact my_retI hx hb hr hlocks hK hS (wl_k_X9_fit cI cJ cK m0 a_row a_tape a_number a_read a_readBits a_stands a_parted a_bitsWere a_stood a_chosen a_bestChosen a_often a_sorted a_risen a_risenWays 0 (nI m_told_10) (nI m_taped) (nI m_at) (nI m_to) (nI m_many) (nI m_readMany) m_fewest (nI m_size_6) mn mf_7 mg_8 mr_11) hP hD (Or.inr (⟨k, 0, m_told_10, m_size_6, mf_7, mg_8, mr_11, rfl, rfl, (by first | assumption | omega | trivial | decide +kernel), (by first | assumption | omega | trivial | decide +kernel), hR_mg_8, (by first | assumption | omega | trivial | decide +kernel), (by first | assumption | omega | trivial | decide +kernel), (by first | assumption | omega | trivial | decide +kernel), (by first | assumption | omega | trivial | decide +kernel), (by rw [hsN_l9, hsN_r9]; exact ft_mk hsv (by omega) (by omega) (fun h9 => by first | (exfalso; omega) | (have h8 := sm_step hsv (by omega) hxs (by assumption); omega))), (by first | assumption | omega | trivial | decide +kernel)⟩)) dX9_fit_87
            ·
              have d38 : ((k : Nat) : Int) < ((m_size_6 : Nat) : Int) := my_nge c38 (nI_toInt (by omega)) (nI_toInt (by omega))
              refine lv_iload hx hb dX9_fit_41 (lv_at hl 0 rfl) ?_
              refine lv_aload_n hx hb dX9_fit_43 rfl (lv_at hl 2 rfl) ?_
              refine va_get (ci := 9) (v := .ref a_sorted) (C := RX9) (T := TX9) (N := 24) hx hb hts hi9 hown hK hP 0 rfl rfl 20 (by decide) fl79 (fun _ h9 => h9) rfl dX9_fit_44 ?_
              refine lv_iload hx hb dX9_fit_47 (lv_at hl 1 rfl) ?_
              refine va_iald hx hb hK hP 3 0 rfl rfl (vp_in_nI (by omega) (by omega)) dX9_fit_49 ?_
              refine my_eqi (y := mg_8 k) (congrArg mg_8 (nI_clamp (by omega))) ?_
              have hb_14 := hR_mg_8 k
              refine lv_iadd hx hb dX9_fit_50 ?_
              refine lv_topi (fun z_15 ez_15 => ?_)
              try have tz_15 : z_15.toInt = x.toInt + (mg_8 k).toInt := by rw [ez_15]; exact my_addI rfl rfl (by omega) (by omega)
              refine lv_iload_n hx hb dX9_fit_51 rfl (lv_at hl 5 rfl) ?_
              refine lv_icmp_gt (tgt := 73) hx hb dX9_fit_52 (by decide) (fun c52 => ?_) (fun c52 => ?_)
              ·
                have d52 : z_15.toInt > k9.toInt := my_gt c52 rfl rfl
                refine lv_aload_n hx hb dX9_fit_73 rfl (lv_at hl 2 rfl) ?_
                refine lv_iconst (v := 0) hx hb dX9_fit_74 (by decide +kernel) ?_
                refine va_put (ci := 9) (v := .int 0) (ty := (.int)) (C := RX9) (T := TX9) (N := 24) hx hb hts hi9 tyX9 tyX9_ok nmX9 hown hK hP hD hS 0 rfl rfl 1 (by decide) fl11 (fun _ h9 => h9) rfl (by decide +kernel) rfl rfl (Nat.le_of_ble_eq_true rfl) dX9_fit_75 (fun H locs hP hD hS => ?_)
                have hP : va_P D vwCl (wl_k_X9_fit cI cJ cK m0 a_row a_tape a_number a_read a_readBits a_stands a_parted a_bitsWere a_stood a_chosen a_bestChosen a_often a_sorted a_risen a_risenWays 0 0 (nI m_taped) (nI m_at) (nI m_to) (nI m_many) (nI m_readMany) m_fewest (nI m_size_6) mn mf_7 mg_8 mr) H := hP
                have hD : va_D A (wl_k_X9_fit cI cJ cK m0 a_row a_tape a_number a_read a_readBits a_stands a_parted a_bitsWere a_stood a_chosen a_bestChosen a_often a_sorted a_risen a_risenWays 0 0 (nI m_taped) (nI m_at) (nI m_to) (nI m_many) (nI m_readMany) m_fewest (nI m_size_6) mn mf_7 mg_8 mr) := hD
                refine lv_aload_n hx hb dX9_fit_78 rfl (lv_at hl 2 rfl) ?_
                refine lv_iload hx hb dX9_fit_79 (lv_at hl 0 rfl) ?_
                refine lv_i2l (v := x.toInt64) hx hb dX9_fit_81 rfl ?_
                refine my_goVS (wc := (wl_k_X9_enters cI cJ cK m0 a_row a_tape a_number a_read a_readBits a_stands a_parted a_bitsWere a_stood a_chosen a_bestChosen a_often a_sorted a_risen a_risenWays 0 0 (nI m_taped) (nI m_at) (nI m_to) (nI m_many) (nI m_readMany) m_fewest (nI m_size_6) mr)) hP hD hS hA [0, 4] rfl [some 0, none, none, none, some 1] (by decide +kernel) (my_cV (As := [.long x.toInt64]) (rest := []) (ci := 9) (wc := (wl_k_X9_enters cI cJ cK m0 a_row a_tape a_number a_read a_readBits a_stands a_parted a_bitsWere a_stood a_chosen a_bestChosen a_often a_sorted a_risen a_risenWays 0 0 (nI m_taped) (nI m_at) (nI m_to) (nI m_many) (nI m_readMany) m_fewest (nI m_size_6) mr)) ⟨hx, hb, hml, hown, hts⟩ (cwV 1 hts gX9_fit_X9_enters rfl rfl rfl (by decide +kernel) ⟨Nat.le_of_ble_eq_true rfl, Nat.le_of_ble_eq_true rfl⟩) hN hK hP hD [0, 4] rfl (by decide) rfl 0 rfl rfl rfl rfl hl.1 rfl (Nat.le_of_ble_eq_true rfl) dX9_fit_82 ⟨Nat.le_of_ble_eq_true rfl, Nat.le_of_ble_eq_true rfl⟩  ((k_X9_enters l D cI cJ cK m0 a_row a_tape a_number a_read a_readBits a_stands a_parted a_bitsWere a_stood a_chosen a_bestChosen a_often a_sorted a_risen a_risenWays (0 : Int32) 0 m_taped m_at m_to m_many m_readMany m_fewest m_size_6 mr x.toInt64 (by first | assumption | omega | decide +kernel) (by first | assumption | omega | decide +kernel) (by first | assumption | omega | decide +kernel) (by first | assumption | omega | decide +kernel) (by first | assumption | omega | decide +kernel) (by first | assumption | omega | decide +kernel) (by first | assumption | omega | decide +kernel) (by first | assumption | omega | decide +kernel)) _)) (fun u H locs hp hPD hS => ?_)
                obtain ⟨m_told_16, mr_17, rfl, hhz_m_told_18, ht_19⟩ := hp
                obtain ⟨hP, hD⟩ := hPD rfl
                have hP : va_P D vwCl (wl_k_X9_fit cI cJ cK m0 a_row a_tape a_number a_read a_readBits a_stands a_parted a_bitsWere a_stood a_chosen a_bestChosen a_often a_sorted a_risen a_risenWays 0 (nI m_told_16) (nI m_taped) (nI m_at) (nI m_to) (nI m_many) (nI m_readMany) m_fewest (nI m_size_6) mn mf_7 mg_8 mr_17) H := hP
                have hD : va_D A (wl_k_X9_fit cI cJ cK m0 a_row a_tape a_number a_read a_readBits a_stands a_parted a_bitsWere a_stood a_chosen a_bestChosen a_often a_sorted a_risen a_risenWays 0 (nI m_told_16) (nI m_taped) (nI m_at) (nI m_to) (nI m_many) (nI m_readMany) m_fewest (nI m_size_6) mn mf_7 mg_8 mr_17) := hD
                refine lv_iload hx hb dX9_fit_85 (lv_at hl 1 rfl) ?_
                have hsI_l9 : (nI a_1).toInt = ((a_1 : Nat) : Int) := nI_toInt (by omega)
                have hsN_l9 : (nI a_1).toInt.toNat = a_1 := nIt (by omega)
                have hsI_r9 : (nI b_2).toInt = ((b_2 : Nat) : Int) := nI_toInt (by omega)
                have hsN_r9 : (nI b_2).toInt.toNat = b_2 := nIt (by omega)
                exact my_retI hx hb hr hlocks hK hS (wl_k_X9_fit cI cJ cK m0 a_row a_tape a_number a_read a_readBits a_stands a_parted a_bitsWere a_stood a_chosen a_bestChosen a_often a_sorted a_risen a_risenWays 0 (nI m_told_16) (nI m_taped) (nI m_at) (nI m_to) (nI m_many) (nI m_readMany) m_fewest (nI m_size_6) mn mf_7 mg_8 mr_17) hP hD (Or.inr (⟨k, 0, m_told_16, m_size_6, mf_7, mg_8, mr_17, rfl, rfl, (by first | assumption | omega | trivial | decide +kernel), (by first | assumption | omega | trivial | decide +kernel), hR_mg_8, (by first | assumption | omega | trivial | decide +kernel), (by first | assumption | omega | trivial | decide +kernel), (by first | assumption | omega | trivial | decide +kernel), (by first | assumption | omega | trivial | decide +kernel), (by rw [hsN_l9, hsN_r9]; exact ft_mk hsv (by omega) (by omega) (fun h9 => by first | (exfalso; omega) | (have h8 := sm_step hsv (by omega) hxs (by assumption); omega))), (by first | assumption | omega | trivial | decide +kernel)⟩)) dX9_fit_87
              ·
                have d52 : z_15.toInt ≤ k9.toInt := my_ngt c52 rfl rfl
                refine lv_iload hx hb dX9_fit_55 (lv_at hl 0 rfl) ?_
                refine lv_aload_n hx hb dX9_fit_57 rfl (lv_at hl 2 rfl) ?_
                refine va_get (ci := 9) (v := .ref a_sorted) (C := RX9) (T := TX9) (N := 24) hx hb hts hi9 hown hK hP 0 rfl rfl 20 (by decide) fl79 (fun _ h9 => h9) rfl dX9_fit_58 ?_
                refine lv_iload hx hb dX9_fit_61 (lv_at hl 1 rfl) ?_
                refine va_iald hx hb hK hP 3 0 rfl rfl (vp_in_nI (by omega) (by omega)) dX9_fit_63 ?_
                refine my_eqi (y := mg_8 k) (congrArg mg_8 (nI_clamp (by omega))) ?_
                have hb_20 := hR_mg_8 k
                refine lv_iadd hx hb dX9_fit_64 ?_
                refine lv_topi (fun z_21 ez_21 => ?_)
                try have tz_21 : z_21.toInt = x.toInt + (mg_8 k).toInt := by rw [ez_21]; exact my_addI rfl rfl (by omega) (by omega)
                refine lv_istore (lv' := [(5, .int z_21), (4, .int (nI k)), (0, .ref m0), (1, .int (nI a_1)), (2, .int (nI b_2)), (3, .int k9)]) hx hb dX9_fit_65 hl (by decide) rfl (fun ls hl => ?_)
                refine lv_iinc (v := nI (k + 1)) (lv' := [(4, .int (nI (k + 1))), (5, .int z_21), (0, .ref m0), (1, .int (nI a_1)), (2, .int (nI b_2)), (3, .int k9)]) hx hb dX9_fit_67 hl (k := 1) rfl (my_incN k 1 (by decide +kernel)) (by decide) rfl (fun ls hl => ?_)
                refine lv_goto (tgt := 32) hx hb dX9_fit_70 (by decide) ?_
                exact ih32  z_21 (k + 1) (by omega) (by first | assumption | omega | decide +kernel) (by first | assumption | omega | decide +kernel) (sm_step hsv (by omega) hxs (by assumption)) (by first | assumption | omega | decide +kernel) _ _ ls hP hD hS (lv_sub hl [1, 0, 2, 3, 4, 5] rfl)
        have ec_22 : (0 : Int32).toInt = 0 := by decide +kernel
        exact loop32 ((64 - 0) + 1) (0 : Int32) 0 (Nat.lt_succ_self _) (by first | assumption | omega | decide +kernel) (by first | assumption | omega | decide +kernel) (rfl) (by first | assumption | omega | decide +kernel) _ _ ls hP hD hS (lv_sub hl [0, 1, 2, 3, 4, 5] rfl)
      ·
        have d15 : k9.toInt < (0 : Int) := my_nge c15 rfl (by decide +kernel)
        refine lv_iconst (v := (-1)) hx hb dX9_fit_18 (by decide +kernel) ?_
        have hsI_l9 : (nI a_1).toInt = ((a_1 : Nat) : Int) := nI_toInt (by omega)
        have hsN_l9 : (nI a_1).toInt.toNat = a_1 := nIt (by omega)
        have hsI_r9 : (nI b_2).toInt = ((b_2 : Nat) : Int) := nI_toInt (by omega)
        have hsN_r9 : (nI b_2).toInt.toNat = b_2 := nIt (by omega)
        exact my_retI hx hb hr hlocks hK hS (wl_k_X9_fit cI cJ cK m0 a_row a_tape a_number a_read a_readBits a_stands a_parted a_bitsWere a_stood a_chosen a_bestChosen a_often a_sorted a_risen a_risenWays 0 (nI m_told) (nI m_taped) (nI m_at) (nI m_to) (nI m_many) (nI m_readMany) m_fewest (nI m_size) mn mf mg mr) hP hD (Or.inl ⟨0, rfl, rfl, (by first | assumption | omega | trivial | decide +kernel)⟩) dX9_fit_19
  ·
    refine lv_if_eq (tgt := 18) hx hb dX9_fit_11 (by decide) (fun c11 => ?_) (fun c11 => ?_)
    ·
      refine lv_iconst (v := (-1)) hx hb dX9_fit_18 (by decide +kernel) ?_
      exact my_retI hx hb hr hlocks hK hS (wl_k_X9_fit cI cJ cK m0 a_row a_tape a_number a_read a_readBits a_stands a_parted a_bitsWere a_stood a_chosen a_bestChosen a_often a_sorted a_risen a_risenWays 0 (nI m_told) (nI m_taped) (nI m_at) (nI m_to) (nI m_many) (nI m_readMany) m_fewest (nI m_size) mn mf mg mr) hP hD (Or.inl ⟨0, rfl, rfl, (by first | assumption | omega | trivial | decide +kernel)⟩) dX9_fit_19
    ·
      exact absurd c11 (by decide +kernel)
abbrev wl_k_X9_gap (cI cJ cK : ClassId) (m0 : Nat) (a_row : Nat) (a_tape : Nat) (a_number : Nat) (a_read : Nat) (a_readBits : Nat) (a_stands : Nat) (a_parted : Nat) (a_bitsWere : Nat) (a_stood : Nat) (a_chosen : Nat) (a_bestChosen : Nat) (a_often : Nat) (a_sorted : Nat) (a_risen : Nat) (a_risenWays : Nat) (v0_ : Int32) (v1_ : Int32) (v2_ : Int32) (v3_ : Int32) (v4_ : Int32) (v5_ : Int32) (v6_ : Int32) (v7_ : Int32) (v8_ : Int32) (v9_ : Nat → Int32) (v10_ : Nat → Int32) (v11_ : Nat → Int32) (v12_ : Nat → Int64) : va_W := [(m0, .inr (9, [.int v0_, .int v1_, .ref a_row, .ref a_tape, .int v2_, .int v3_, .int v4_, .int v5_, .ref a_number, .ref a_read, .int v6_, .ref a_readBits, .ref a_stands, .ref a_parted, .ref a_bitsWere, .ref a_stood, .ref a_chosen, .ref a_bestChosen, .int v7_, .ref a_often, .ref a_sorted, .int v8_, .ref a_risen, .ref a_risenWays])), (a_number, .inl (cI, 64, .inl v9_)), (a_often, .inl (cI, 512, .inl v10_)), (a_sorted, .inl (cI, 128, .inl v11_)), (a_row, .inl (cJ, 64, .inr (.inl v12_)))]
set_option maxHeartbeats 4000000 in
set_option maxRecDepth 100000 in
theorem k_X9_gap (l : Launch) (D : va_G) (cI cJ cK : ClassId) (m0 : Nat) (a_row : Nat) (a_tape : Nat) (a_number : Nat) (a_read : Nat) (a_readBits : Nat) (a_stands : Nat) (a_parted : Nat) (a_bitsWere : Nat) (a_stood : Nat) (a_chosen : Nat) (a_bestChosen : Nat) (a_often : Nat) (a_sorted : Nat) (a_risen : Nat) (a_risenWays : Nat) (m_thrown : Int32) (m_told : Nat) (m_taped : Nat) (m_at : Nat) (m_to : Nat) (m_many : Nat) (m_readMany : Nat) (m_fewest : Int32) (m_size : Nat) (mn : Nat → Int32) (mf : Nat → Int32) (mg : Nat → Int32) (mr : Nat → Int64) (l9 : Int32) (r9 : Int32) (hz_m_told : m_told ≤ 64) (hz_m_taped : m_taped ≤ 100) (hz_m_at : m_at ≤ 100) (hz_m_to : m_to ≤ 100) (hz_m_many : m_many ≤ 64) (hz_m_readMany : m_readMany ≤ 64) (hz_m_size : m_size ≤ 64) (hR_mn : RB 0 255 mn) (hR_mg : RB 0 255 mg) : ctI l yX9_gap wsX9_gap ({ frames := 2, cells := 0, slots := 0, locals := 120 } : Room) D (tyIJ cI cJ cK) [.ref m0, .int l9, .int r9] (wl_k_X9_gap cI cJ cK m0 a_row a_tape a_number a_read a_readBits a_stands a_parted a_bitsWere a_stood a_chosen a_bestChosen a_often a_sorted a_risen a_risenWays m_thrown (nI m_told) (nI m_taped) (nI m_at) (nI m_to) (nI m_many) (nI m_readMany) m_fewest (nI m_size) mn mf mg mr) (fun (r : Int32) (u : va_W) => (∃ (m_thrown' : Int32), u = (wl_k_X9_gap cI cJ cK m0 a_row a_tape a_number a_read a_readBits a_stands a_parted a_bitsWere a_stood a_chosen a_bestChosen a_often a_sorted a_risen a_risenWays m_thrown' (nI m_told) (nI m_taped) (nI m_at) (nI m_to) (nI m_many) (nI m_readMany) m_fewest (nI m_size) mn mf mg mr) ∧ r = (-1) ∧ (l9.toInt < 0 ∨ r9.toInt < l9.toInt ∨ m_many < r9.toInt)) ∨ (∃ (m_thrown' : Int32), u = (wl_k_X9_gap cI cJ cK m0 a_row a_tape a_number a_read a_readBits a_stands a_parted a_bitsWere a_stood a_chosen a_bestChosen a_often a_sorted a_risen a_risenWays m_thrown' (nI m_told) (nI m_taped) (nI m_at) (nI m_to) (nI m_many) (nI m_readMany) m_fewest (nI m_size) mn mf mg mr) ∧ r = (-2) ∧ 0 ≤ l9.toInt ∧ l9.toInt ≤ r9.toInt ∧ r9.toInt ≤ m_many ∧ r9.toInt - l9.toInt < 2) ∨ (∃ (m_thrown' : Int32) (m_told' : Nat) (m_size' : Nat) (mf' : Nat → Int32) (mg' : Nat → Int32) (mr' : Nat → Int64), u = (wl_k_X9_gap cI cJ cK m0 a_row a_tape a_number a_read a_readBits a_stands a_parted a_bitsWere a_stood a_chosen a_bestChosen a_often a_sorted a_risen a_risenWays m_thrown' (nI m_told') (nI m_taped) (nI m_at) (nI m_to) (nI m_many) (nI m_readMany) m_fewest (nI m_size') mn mf' mg' mr') ∧ m_told' ≤ 64 ∧ m_size' ≤ 64 ∧ RB 0 255 mg' ∧ 0 ≤ l9.toInt ∧ l9.toInt ≤ r9.toInt ∧ r9.toInt ≤ m_many ∧ 2 ≤ r9.toInt - l9.toInt ∧ gpA mn l9.toInt.toNat r9.toInt.toNat r ∧ m_told' = 2)) := by
  refine ctI.of (cc := cX9_gap) (maxL := 5) (ret := (some .int)) (by decide) rfl (Nat.le_of_ble_eq_true rfl) ?_
  intro p e s m below meth c ls A hx hb hr hts hown hml hlocks hname hA hK hN hP hD hS hl
  have hl : lv_has ls 5 [(0, .ref m0), (1, .int l9), (2, .int r9)] := hl
  have hown : s.vm.findClass RX9 = some m.cls := hown
  have hi9 : ∀ w ∈ u_ws RX9 TX9 24, w ∈ wsX9_gap := by decide +kernel
  have fl1 := hts (.fieldLink RX9 1 "PlaneColumnModel" "thrown" "I") (by decide +kernel)
  have fl11 := hts (.fieldLink RX9 11 "PlaneColumnModel" "told" "I") (by decide +kernel)
  have fl172 := hts (.fieldLink RX9 172 "PlaneColumnModel" "size" "I") (by decide +kernel)
  have fl79 := hts (.fieldLink RX9 79 "PlaneColumnModel" "sorted" "[I") (by decide +kernel)
  refine lv_aload_n hx hb dX9_gap_0 rfl (lv_at hl 0 rfl) ?_
  refine lv_iconst (v := 0) hx hb dX9_gap_1 (by decide +kernel) ?_
  refine va_put (ci := 9) (v := .int 0) (ty := (.int)) (C := RX9) (T := TX9) (N := 24) hx hb hts hi9 tyX9 tyX9_ok nmX9 hown hK hP hD hS 0 rfl rfl 0 (by decide) fl1 (fun _ h9 => h9) rfl (by decide +kernel) rfl rfl (Nat.le_of_ble_eq_true rfl) dX9_gap_2 (fun H locs hP hD hS => ?_)
  have hP : va_P D vwCl (wl_k_X9_gap cI cJ cK m0 a_row a_tape a_number a_read a_readBits a_stands a_parted a_bitsWere a_stood a_chosen a_bestChosen a_often a_sorted a_risen a_risenWays 0 (nI m_told) (nI m_taped) (nI m_at) (nI m_to) (nI m_many) (nI m_readMany) m_fewest (nI m_size) mn mf mg mr) H := hP
  have hD : va_D A (wl_k_X9_gap cI cJ cK m0 a_row a_tape a_number a_read a_readBits a_stands a_parted a_bitsWere a_stood a_chosen a_bestChosen a_often a_sorted a_risen a_risenWays 0 (nI m_told) (nI m_taped) (nI m_at) (nI m_to) (nI m_many) (nI m_readMany) m_fewest (nI m_size) mn mf mg mr) := hD
  refine lv_aload_n hx hb dX9_gap_5 rfl (lv_at hl 0 rfl) ?_
  refine lv_iload_n hx hb dX9_gap_6 rfl (lv_at hl 1 rfl) ?_
  refine lv_iload_n hx hb dX9_gap_7 rfl (lv_at hl 2 rfl) ?_
  refine my_gpI (my_pV (As := [.int l9, .int r9]) (rest := []) (ci := 9) ⟨hx, hb, hml, hown, hts⟩ (cwV 2 hts gX9_gap_X9_isSpan rfl rfl rfl (by decide +kernel) ⟨Nat.le_of_ble_eq_true rfl, Nat.le_of_ble_eq_true rfl⟩) hN hK hP [0] rfl 0 rfl rfl rfl rfl hl.1 rfl (Nat.le_of_ble_eq_true rfl) dX9_gap_8 ⟨Nat.le_of_ble_eq_true rfl, Nat.le_of_ble_eq_true rfl⟩  (k_X9_isSpan l D cI cJ cK m0 a_row a_tape a_number a_read a_readBits a_stands a_parted a_bitsWere a_stood a_chosen a_bestChosen a_often a_sorted a_risen a_risenWays (0 : Int32) m_told m_taped m_at m_to m_many m_readMany m_fewest m_size l9 r9 (by first | assumption | omega | decide +kernel) (by first | assumption | omega | decide +kernel) (by first | assumption | omega | decide +kernel) (by first | assumption | omega | decide +kernel) (by first | assumption | omega | decide +kernel) (by first | assumption | omega | decide +kernel) (by first | assumption | omega | decide +kernel))) (fun r hp => ?_)
  rcases hp with ⟨a_1, b_2, rfl, rfl, rfl, ha_3, hb_4⟩ | ⟨rfl, ho_5⟩
  ·
    refine lv_if_ne (tgt := 16) hx hb dX9_gap_11 (by decide) (fun c11 => ?_) (fun c11 => ?_)
    ·
      refine lv_iload_n hx hb dX9_gap_16 rfl (lv_at hl 2 rfl) ?_
      refine lv_iload_n hx hb dX9_gap_17 rfl (lv_at hl 1 rfl) ?_
      refine lv_isub hx hb dX9_gap_18 ?_
      refine lv_topi (fun z_6 ez_6 => ?_)
      try have tz_6 : z_6.toInt = ((b_2 : Nat) : Int) - ((a_1 : Nat) : Int) := by rw [ez_6]; exact my_subI (nI_toInt (by omega)) (nI_toInt (by omega)) (by omega) (by omega)
      refine lv_iconst (v := 2) hx hb dX9_gap_19 (by decide +kernel) ?_
      refine lv_icmp_ge (tgt := 26) hx hb dX9_gap_20 (by decide) (fun c20 => ?_) (fun c20 => ?_)
      ·
        have d20 : z_6.toInt ≥ (2 : Int) := my_ge c20 rfl (by decide +kernel)
        refine lv_aload_n hx hb dX9_gap_26 rfl (lv_at hl 0 rfl) ?_
        refine lv_iload_n hx hb dX9_gap_27 rfl (lv_at hl 1 rfl) ?_
        refine lv_iload_n hx hb dX9_gap_28 rfl (lv_at hl 2 rfl) ?_
        refine my_goVS (wc := (wl_k_X9_sorts cI cJ cK m0 a_row a_tape a_number a_read a_readBits a_stands a_parted a_bitsWere a_stood a_chosen a_bestChosen a_often a_sorted a_risen a_risenWays 0 (nI m_told) (nI m_taped) (nI m_at) (nI m_to) (nI m_many) (nI m_readMany) m_fewest (nI m_size) mn mf mg)) hP hD hS hA [0, 1, 2, 3] rfl [some 0, some 1, some 2, some 3] (by decide +kernel) (my_cV (As := [.int (nI a_1), .int (nI b_2)]) (rest := []) (ci := 9) (wc := (wl_k_X9_sorts cI cJ cK m0 a_row a_tape a_number a_read a_readBits a_stands a_parted a_bitsWere a_stood a_chosen a_bestChosen a_often a_sorted a_risen a_risenWays 0 (nI m_told) (nI m_taped) (nI m_at) (nI m_to) (nI m_many) (nI m_readMany) m_fewest (nI m_size) mn mf mg)) ⟨hx, hb, hml, hown, hts⟩ (cwV 2 hts gX9_gap_X9_sorts rfl rfl rfl (by decide +kernel) ⟨Nat.le_of_ble_eq_true rfl, Nat.le_of_ble_eq_true rfl⟩) hN hK hP hD [0, 1, 2, 3] rfl (by decide) rfl 0 rfl rfl rfl rfl hl.1 rfl (Nat.le_of_ble_eq_true rfl) dX9_gap_29 ⟨Nat.le_of_ble_eq_true rfl, Nat.le_of_ble_eq_true rfl⟩  ((k_X9_sorts l D cI cJ cK m0 a_row a_tape a_number a_read a_readBits a_stands a_parted a_bitsWere a_stood a_chosen a_bestChosen a_often a_sorted a_risen a_risenWays (0 : Int32) m_told m_taped m_at m_to m_many m_readMany m_fewest m_size mn mf mg a_1 b_2 (by first | assumption | omega | decide +kernel) (by first | assumption | omega | decide +kernel) (by first | assumption | omega | decide +kernel) (by first | assumption | omega | decide +kernel) (by first | assumption | omega | decide +kernel) (by first | assumption | omega | decide +kernel) (by first | assumption | omega | decide +kernel) hR_mn hR_mg (by first | assumption | omega | decide +kernel) (by first | assumption | omega | decide +kernel)) _)) (fun u H locs hp hPD hS => ?_)
        obtain ⟨m_size_7, mf_8, mg_9, rfl, hhz_m_size_10, hR_mg_9, hcs, hsz, hso, hsv⟩ := hp
        obtain ⟨hP, hD⟩ := hPD rfl
        have hP : va_P D vwCl (wl_k_X9_gap cI cJ cK m0 a_row a_tape a_number a_read a_readBits a_stands a_parted a_bitsWere a_stood a_chosen a_bestChosen a_often a_sorted a_risen a_risenWays 0 (nI m_told) (nI m_taped) (nI m_at) (nI m_to) (nI m_many) (nI m_readMany) m_fewest (nI m_size_7) mn mf_8 mg_9 mr) H := hP
        have hD : va_D A (wl_k_X9_gap cI cJ cK m0 a_row a_tape a_number a_read a_readBits a_stands a_parted a_bitsWere a_stood a_chosen a_bestChosen a_often a_sorted a_risen a_risenWays 0 (nI m_told) (nI m_taped) (nI m_at) (nI m_to) (nI m_many) (nI m_readMany) m_fewest (nI m_size_7) mn mf_8 mg_9 mr) := hD
        refine lv_iconst (v := 0) hx hb dX9_gap_32 (by decide +kernel) ?_
        refine lv_istore_n (lv' := [(3, .int 0), (0, .ref m0), (1, .int (nI a_1)), (2, .int (nI b_2))]) hx hb dX9_gap_33 rfl hl (by decide) rfl (fun ls hl => ?_)
        refine lv_iconst (v := 1) hx hb dX9_gap_34 (by decide +kernel) ?_
        refine lv_istore (lv' := [(4, .int 1), (3, .int 0), (0, .ref m0), (1, .int (nI a_1)), (2, .int (nI b_2))]) hx hb dX9_gap_35 hl (by decide) rfl (fun ls hl => ?_)
        have loop37 : ∀ (n9 : Nat) (k : Nat) (ct : Nat), 64 - k < n9 → (ct ≤ 64) → (k ≤ 64) → (1 ≤ k) → (ct + 1 < k + 1) → (k ≤ b_2 - a_1 - 1) → (gpP mg_9 ct k) → ∀ (H : Heap) (locs : List Loc) (ls : Array Slot), va_P D vwCl (wl_k_X9_gap cI cJ cK m0 a_row a_tape a_number a_read a_readBits a_stands a_parted a_bitsWere a_stood a_chosen a_bestChosen a_often a_sorted a_risen a_risenWays 0 (nI m_told) (nI m_taped) (nI m_at) (nI m_to) (nI m_many) (nI m_readMany) m_fewest (nI m_size_7) mn mf_8 mg_9 mr) H → va_D A (wl_k_X9_gap cI cJ cK m0 a_row a_tape a_number a_read a_readBits a_stands a_parted a_bitsWere a_stood a_chosen a_bestChosen a_often a_sorted a_risen a_risenWays 0 (nI m_told) (nI m_taped) (nI m_at) (nI m_to) (nI m_many) (nI m_readMany) m_fewest (nI m_size_7) mn mf_8 mg_9 mr) → va_S A s.heap H locs → lv_has ls 5 [(4, .int (nI k)), (3, .int (nI ct)), (0, .ref m0), (1, .int (nI a_1)), (2, .int (nI b_2))] → W p l e ({ frames := 2, cells := 0, slots := 0, locals := 120 } : Room) s m [.ref m0, .int (nI a_1), .int (nI b_2)].toArray below meth c H locs 0 0 (MQ below (va_Qi (fun (r : Int32) (u : va_W) => (∃ (m_thrown' : Int32), u = (wl_k_X9_gap cI cJ cK m0 a_row a_tape a_number a_read a_readBits a_stands a_parted a_bitsWere a_stood a_chosen a_bestChosen a_often a_sorted a_risen a_risenWays m_thrown' (nI m_told) (nI m_taped) (nI m_at) (nI m_to) (nI m_many) (nI m_readMany) m_fewest (nI m_size) mn mf mg mr) ∧ r = (-1) ∧ ((nI a_1).toInt < 0 ∨ (nI b_2).toInt < (nI a_1).toInt ∨ m_many < (nI b_2).toInt)) ∨ (∃ (m_thrown' : Int32), u = (wl_k_X9_gap cI cJ cK m0 a_row a_tape a_number a_read a_readBits a_stands a_parted a_bitsWere a_stood a_chosen a_bestChosen a_often a_sorted a_risen a_risenWays m_thrown' (nI m_told) (nI m_taped) (nI m_at) (nI m_to) (nI m_many) (nI m_readMany) m_fewest (nI m_size) mn mf mg mr) ∧ r = (-2) ∧ 0 ≤ (nI a_1).toInt ∧ (nI a_1).toInt ≤ (nI b_2).toInt ∧ (nI b_2).toInt ≤ m_many ∧ (nI b_2).toInt - (nI a_1).toInt < 2) ∨ (∃ (m_thrown' : Int32) (m_told' : Nat) (m_size' : Nat) (mf' : Nat → Int32) (mg' : Nat → Int32) (mr' : Nat → Int64), u = (wl_k_X9_gap cI cJ cK m0 a_row a_tape a_number a_read a_readBits a_stands a_parted a_bitsWere a_stood a_chosen a_bestChosen a_often a_sorted a_risen a_risenWays m_thrown' (nI m_told') (nI m_taped) (nI m_at) (nI m_to) (nI m_many) (nI m_readMany) m_fewest (nI m_size') mn mf' mg' mr') ∧ m_told' ≤ 64 ∧ m_size' ≤ 64 ∧ RB 0 255 mg' ∧ 0 ≤ (nI a_1).toInt ∧ (nI a_1).toInt ≤ (nI b_2).toInt ∧ (nI b_2).toInt ≤ m_many ∧ 2 ≤ (nI b_2).toInt - (nI a_1).toInt ∧ gpA mn (nI a_1).toInt.toNat (nI b_2).toInt.toNat r ∧ m_told' = 2)) (my_B D (tyIJ cI cJ cK) A) A) [.ref m0, .int (nI a_1), .int (nI b_2)].toArray s 0 0 A) (F0 m 37 ls []) := by
          intro n9
          induction n9 with
          | zero =>
            intro k ct hn9
            exact absurd hn9 (Nat.not_lt_zero _)
          | succ n9 ih37 =>
            intro k ct hn9 hk_ct hk_k hk1 hc1 hkb hgp H locs ls hP hD hS hl
            refine lv_iload hx hb dX9_gap_37 (lv_at hl 0 rfl) ?_
            refine lv_iconst (v := 1) hx hb dX9_gap_39 (by decide +kernel) ?_
            refine lv_iadd hx hb dX9_gap_40 ?_
            refine my_eqi (y := nI (k + 1)) (my_addN k 1) ?_
            refine lv_aload_n hx hb dX9_gap_41 rfl (lv_at hl 2 rfl) ?_
            refine va_get (ci := 9) (v := .int (nI m_size_7)) (C := RX9) (T := TX9) (N := 24) hx hb hts hi9 hown hK hP 0 rfl rfl 21 (by decide) fl172 (fun _ h9 => h9) rfl dX9_gap_42 ?_
            refine lv_icmp_ge (tgt := 96) hx hb dX9_gap_45 (by decide) (fun c45 => ?_) (fun c45 => ?_)
            ·
              have d45 : ((k + 1 : Nat) : Int) ≥ ((m_size_7 : Nat) : Int) := my_ge c45 (nI_toInt (by omega)) (nI_toInt (by omega))
              refine lv_aload_n hx hb dX9_gap_96 rfl (lv_at hl 2 rfl) ?_
              refine lv_iconst (v := 0) hx hb dX9_gap_97 (by decide +kernel) ?_
              refine va_put (ci := 9) (v := .int 0) (ty := (.int)) (C := RX9) (T := TX9) (N := 24) hx hb hts hi9 tyX9 tyX9_ok nmX9 hown hK hP hD hS 0 rfl rfl 1 (by decide) fl11 (fun _ h9 => h9) rfl (by decide +kernel) rfl rfl (Nat.le_of_ble_eq_true rfl) dX9_gap_98 (fun H locs hP hD hS => ?_)
              have hP : va_P D vwCl (wl_k_X9_gap cI cJ cK m0 a_row a_tape a_number a_read a_readBits a_stands a_parted a_bitsWere a_stood a_chosen a_bestChosen a_often a_sorted a_risen a_risenWays 0 0 (nI m_taped) (nI m_at) (nI m_to) (nI m_many) (nI m_readMany) m_fewest (nI m_size_7) mn mf_8 mg_9 mr) H := hP
              have hD : va_D A (wl_k_X9_gap cI cJ cK m0 a_row a_tape a_number a_read a_readBits a_stands a_parted a_bitsWere a_stood a_chosen a_bestChosen a_often a_sorted a_risen a_risenWays 0 0 (nI m_taped) (nI m_at) (nI m_to) (nI m_many) (nI m_readMany) m_fewest (nI m_size_7) mn mf_8 mg_9 mr) := hD
              refine lv_aload_n hx hb dX9_gap_101 rfl (lv_at hl 2 rfl) ?_
              refine lv_aload_n hx hb dX9_gap_102 rfl (lv_at hl 2 rfl) ?_
              refine va_get (ci := 9) (v := .ref a_sorted) (C := RX9) (T := TX9) (N := 24) hx hb hts hi9 hown hK hP 0 rfl rfl 20 (by decide) fl79 (fun _ h9 => h9) rfl dX9_gap_103 ?_
              refine lv_iload_n hx hb dX9_gap_106 rfl (lv_at hl 1 rfl) ?_
              refine va_iald hx hb hK hP 3 0 rfl rfl (vp_in_nI (by omega) (by omega)) dX9_gap_107 ?_
              refine my_eqi (y := mg_9 ct) (congrArg mg_9 (nI_clamp (by omega))) ?_
              have hb_11 := hR_mg_9 ct
              refine lv_i2l (v := (mg_9 ct).toInt64) hx hb dX9_gap_108 rfl ?_
              refine my_goVS (wc := (wl_k_X9_enters cI cJ cK m0 a_row a_tape a_number a_read a_readBits a_stands a_parted a_bitsWere a_stood a_chosen a_bestChosen a_often a_sorted a_risen a_risenWays 0 0 (nI m_taped) (nI m_at) (nI m_to) (nI m_many) (nI m_readMany) m_fewest (nI m_size_7) mr)) hP hD hS hA [0, 4] rfl [some 0, none, none, none, some 1] (by decide +kernel) (my_cV (As := [.long ((mg_9 ct).toInt64)]) (rest := []) (ci := 9) (wc := (wl_k_X9_enters cI cJ cK m0 a_row a_tape a_number a_read a_readBits a_stands a_parted a_bitsWere a_stood a_chosen a_bestChosen a_often a_sorted a_risen a_risenWays 0 0 (nI m_taped) (nI m_at) (nI m_to) (nI m_many) (nI m_readMany) m_fewest (nI m_size_7) mr)) ⟨hx, hb, hml, hown, hts⟩ (cwV 1 hts gX9_gap_X9_enters rfl rfl rfl (by decide +kernel) ⟨Nat.le_of_ble_eq_true rfl, Nat.le_of_ble_eq_true rfl⟩) hN hK hP hD [0, 4] rfl (by decide) rfl 0 rfl rfl rfl rfl hl.1 rfl (Nat.le_of_ble_eq_true rfl) dX9_gap_109 ⟨Nat.le_of_ble_eq_true rfl, Nat.le_of_ble_eq_true rfl⟩  ((k_X9_enters l D cI cJ cK m0 a_row a_tape a_number a_read a_readBits a_stands a_parted a_bitsWere a_stood a_chosen a_bestChosen a_often a_sorted a_risen a_risenWays (0 : Int32) 0 m_taped m_at m_to m_many m_readMany m_fewest m_size_7 mr ((mg_9 ct).toInt64) (by first | assumption | omega | decide +kernel) (by first | assumption | omega | decide +kernel) (by first | assumption | omega | decide +kernel) (by first | assumption | omega | decide +kernel) (by first | assumption | omega | decide +kernel) (by first | assumption | omega | decide +kernel) (by first | assumption | omega | decide +kernel) (by first | assumption | omega | decide +kernel)) _)) (fun u H locs hp hPD hS => ?_)
              obtain ⟨m_told_12, mr_13, rfl, hhz_m_told_14, ht_15⟩ := hp
              obtain ⟨hP, hD⟩ := hPD rfl
              have hP : va_P D vwCl (wl_k_X9_gap cI cJ cK m0 a_row a_tape a_number a_read a_readBits a_stands a_parted a_bitsWere a_stood a_chosen a_bestChosen a_often a_sorted a_risen a_risenWays 0 (nI m_told_12) (nI m_taped) (nI m_at) (nI m_to) (nI m_many) (nI m_readMany) m_fewest (nI m_size_7) mn mf_8 mg_9 mr_13) H := hP
              have hD : va_D A (wl_k_X9_gap cI cJ cK m0 a_row a_tape a_number a_read a_readBits a_stands a_parted a_bitsWere a_stood a_chosen a_bestChosen a_often a_sorted a_risen a_risenWays 0 (nI m_told_12) (nI m_taped) (nI m_at) (nI m_to) (nI m_many) (nI m_readMany) m_fewest (nI m_size_7) mn mf_8 mg_9 mr_13) := hD
              refine lv_aload_n hx hb dX9_gap_112 rfl (lv_at hl 2 rfl) ?_
              refine lv_aload_n hx hb dX9_gap_113 rfl (lv_at hl 2 rfl) ?_
              refine va_get (ci := 9) (v := .ref a_sorted) (C := RX9) (T := TX9) (N := 24) hx hb hts hi9 hown hK hP 0 rfl rfl 20 (by decide) fl79 (fun _ h9 => h9) rfl dX9_gap_114 ?_
              refine lv_iload_n hx hb dX9_gap_117 rfl (lv_at hl 1 rfl) ?_
              refine lv_iconst (v := 1) hx hb dX9_gap_118 (by decide +kernel) ?_
              refine lv_iadd hx hb dX9_gap_119 ?_
              refine my_eqi (y := nI (ct + 1)) (my_addN ct 1) ?_
              refine va_iald hx hb hK hP 3 0 rfl rfl (vp_in_nI (by omega) (by omega)) dX9_gap_120 ?_
              refine my_eqi (y := mg_9 (ct + 1)) (congrArg mg_9 (nI_clamp (by omega))) ?_
              have hb_16 := hR_mg_9 (ct + 1)
              refine lv_i2l (v := (mg_9 (ct + 1)).toInt64) hx hb dX9_gap_121 rfl ?_
              refine my_goVS (wc := (wl_k_X9_enters cI cJ cK m0 a_row a_tape a_number a_read a_readBits a_stands a_parted a_bitsWere a_stood a_chosen a_bestChosen a_often a_sorted a_risen a_risenWays 0 (nI m_told_12) (nI m_taped) (nI m_at) (nI m_to) (nI m_many) (nI m_readMany) m_fewest (nI m_size_7) mr_13)) hP hD hS hA [0, 4] rfl [some 0, none, none, none, some 1] (by decide +kernel) (my_cV (As := [.long ((mg_9 (ct + 1)).toInt64)]) (rest := []) (ci := 9) (wc := (wl_k_X9_enters cI cJ cK m0 a_row a_tape a_number a_read a_readBits a_stands a_parted a_bitsWere a_stood a_chosen a_bestChosen a_often a_sorted a_risen a_risenWays 0 (nI m_told_12) (nI m_taped) (nI m_at) (nI m_to) (nI m_many) (nI m_readMany) m_fewest (nI m_size_7) mr_13)) ⟨hx, hb, hml, hown, hts⟩ (cwV 1 hts gX9_gap_X9_enters rfl rfl rfl (by decide +kernel) ⟨Nat.le_of_ble_eq_true rfl, Nat.le_of_ble_eq_true rfl⟩) hN hK hP hD [0, 4] rfl (by decide) rfl 0 rfl rfl rfl rfl hl.1 rfl (Nat.le_of_ble_eq_true rfl) dX9_gap_122 ⟨Nat.le_of_ble_eq_true rfl, Nat.le_of_ble_eq_true rfl⟩  ((k_X9_enters l D cI cJ cK m0 a_row a_tape a_number a_read a_readBits a_stands a_parted a_bitsWere a_stood a_chosen a_bestChosen a_often a_sorted a_risen a_risenWays (0 : Int32) m_told_12 m_taped m_at m_to m_many m_readMany m_fewest m_size_7 mr_13 ((mg_9 (ct + 1)).toInt64) (by first | assumption | omega | decide +kernel) (by first | assumption | omega | decide +kernel) (by first | assumption | omega | decide +kernel) (by first | assumption | omega | decide +kernel) (by first | assumption | omega | decide +kernel) (by first | assumption | omega | decide +kernel) (by first | assumption | omega | decide +kernel) (by first | assumption | omega | decide +kernel)) _)) (fun u H locs hp hPD hS => ?_)
              obtain ⟨m_told_17, mr_18, rfl, hhz_m_told_19, ht_20⟩ := hp
              obtain ⟨hP, hD⟩ := hPD rfl
              have hP : va_P D vwCl (wl_k_X9_gap cI cJ cK m0 a_row a_tape a_number a_read a_readBits a_stands a_parted a_bitsWere a_stood a_chosen a_bestChosen a_often a_sorted a_risen a_risenWays 0 (nI m_told_17) (nI m_taped) (nI m_at) (nI m_to) (nI m_many) (nI m_readMany) m_fewest (nI m_size_7) mn mf_8 mg_9 mr_18) H := hP
              have hD : va_D A (wl_k_X9_gap cI cJ cK m0 a_row a_tape a_number a_read a_readBits a_stands a_parted a_bitsWere a_stood a_chosen a_bestChosen a_often a_sorted a_risen a_risenWays 0 (nI m_told_17) (nI m_taped) (nI m_at) (nI m_to) (nI m_many) (nI m_readMany) m_fewest (nI m_size_7) mn mf_8 mg_9 mr_18) := hD
              refine lv_aload_n hx hb dX9_gap_125 rfl (lv_at hl 2 rfl) ?_
              refine va_get (ci := 9) (v := .ref a_sorted) (C := RX9) (T := TX9) (N := 24) hx hb hts hi9 hown hK hP 0 rfl rfl 20 (by decide) fl79 (fun _ h9 => h9) rfl dX9_gap_126 ?_
              refine lv_iload_n hx hb dX9_gap_129 rfl (lv_at hl 1 rfl) ?_
              refine lv_iconst (v := 1) hx hb dX9_gap_130 (by decide +kernel) ?_
              refine lv_iadd hx hb dX9_gap_131 ?_
              refine my_eqi (y := nI (ct + 1)) (my_addN ct 1) ?_
              refine va_iald hx hb hK hP 3 0 rfl rfl (vp_in_nI (by omega) (by omega)) dX9_gap_132 ?_
              refine my_eqi (y := mg_9 (ct + 1)) (congrArg mg_9 (nI_clamp (by omega))) ?_
              have hb_21 := hR_mg_9 (ct + 1)
              refine lv_aload_n hx hb dX9_gap_133 rfl (lv_at hl 2 rfl) ?_
              refine va_get (ci := 9) (v := .ref a_sorted) (C := RX9) (T := TX9) (N := 24) hx hb hts hi9 hown hK hP 0 rfl rfl 20 (by decide) fl79 (fun _ h9 => h9) rfl dX9_gap_134 ?_
              refine lv_iload_n hx hb dX9_gap_137 rfl (lv_at hl 1 rfl) ?_
              refine va_iald hx hb hK hP 3 0 rfl rfl (vp_in_nI (by omega) (by omega)) dX9_gap_138 ?_
              refine my_eqi (y := mg_9 ct) (congrArg mg_9 (nI_clamp (by omega))) ?_
              have hb_22 := hR_mg_9 ct
              refine lv_isub hx hb dX9_gap_139 ?_
              refine lv_topi (fun z_23 ez_23 => ?_)
              try have tz_23 : z_23.toInt = (mg_9 (ct + 1)).toInt - (mg_9 ct).toInt := by rw [ez_23]; exact my_subI rfl rfl (by omega) (by omega)
              have hsI_l9 : (nI a_1).toInt = ((a_1 : Nat) : Int) := nI_toInt (by omega)
              have hsN_l9 : (nI a_1).toInt.toNat = a_1 := nIt (by omega)
              have hsI_r9 : (nI b_2).toInt = ((b_2 : Nat) : Int) := nI_toInt (by omega)
              have hsN_r9 : (nI b_2).toInt.toNat = b_2 := nIt (by omega)
              exact my_retI hx hb hr hlocks hK hS (wl_k_X9_gap cI cJ cK m0 a_row a_tape a_number a_read a_readBits a_stands a_parted a_bitsWere a_stood a_chosen a_bestChosen a_often a_sorted a_risen a_risenWays 0 (nI m_told_17) (nI m_taped) (nI m_at) (nI m_to) (nI m_many) (nI m_readMany) m_fewest (nI m_size_7) mn mf_8 mg_9 mr_18) hP hD (Or.inr (Or.inr (⟨0, m_told_17, m_size_7, mf_8, mg_9, mr_18, rfl, (by first | assumption | omega | trivial | decide +kernel), (by first | assumption | omega | trivial | decide +kernel), hR_mg_9, (by first | assumption | omega | trivial | decide +kernel), (by first | assumption | omega | trivial | decide +kernel), (by first | assumption | omega | trivial | decide +kernel), (by first | assumption | omega | trivial | decide +kernel), (by rw [hsN_l9, hsN_r9]; exact gp_mk hsv (by omega) hgp (by omega) (by assumption)), (by first | assumption | omega | trivial | decide +kernel)⟩))) dX9_gap_140
            ·
              have d45 : ((k + 1 : Nat) : Int) < ((m_size_7 : Nat) : Int) := my_nge c45 (nI_toInt (by omega)) (nI_toInt (by omega))
              refine lv_aload_n hx hb dX9_gap_48 rfl (lv_at hl 2 rfl) ?_
              refine va_get (ci := 9) (v := .ref a_sorted) (C := RX9) (T := TX9) (N := 24) hx hb hts hi9 hown hK hP 0 rfl rfl 20 (by decide) fl79 (fun _ h9 => h9) rfl dX9_gap_49 ?_
              refine lv_iload hx hb dX9_gap_52 (lv_at hl 0 rfl) ?_
              refine lv_iconst (v := 1) hx hb dX9_gap_54 (by decide +kernel) ?_
              refine lv_iadd hx hb dX9_gap_55 ?_
              refine my_eqi (y := nI (k + 1)) (my_addN k 1) ?_
              refine va_iald hx hb hK hP 3 0 rfl rfl (vp_in_nI (by omega) (by omega)) dX9_gap_56 ?_
              refine my_eqi (y := mg_9 (k + 1)) (congrArg mg_9 (nI_clamp (by omega))) ?_
              have hb_24 := hR_mg_9 (k + 1)
              refine lv_aload_n hx hb dX9_gap_57 rfl (lv_at hl 2 rfl) ?_
              refine va_get (ci := 9) (v := .ref a_sorted) (C := RX9) (T := TX9) (N := 24) hx hb hts hi9 hown hK hP 0 rfl rfl 20 (by decide) fl79 (fun _ h9 => h9) rfl dX9_gap_58 ?_
              refine lv_iload hx hb dX9_gap_61 (lv_at hl 0 rfl) ?_
              refine va_iald hx hb hK hP 3 0 rfl rfl (vp_in_nI (by omega) (by omega)) dX9_gap_63 ?_
              refine my_eqi (y := mg_9 k) (congrArg mg_9 (nI_clamp (by omega))) ?_
              have hb_25 := hR_mg_9 k
              refine lv_isub hx hb dX9_gap_64 ?_
              refine lv_topi (fun z_26 ez_26 => ?_)
              try have tz_26 : z_26.toInt = (mg_9 (k + 1)).toInt - (mg_9 k).toInt := by rw [ez_26]; exact my_subI rfl rfl (by omega) (by omega)
              refine lv_aload_n hx hb dX9_gap_65 rfl (lv_at hl 2 rfl) ?_
              refine va_get (ci := 9) (v := .ref a_sorted) (C := RX9) (T := TX9) (N := 24) hx hb hts hi9 hown hK hP 0 rfl rfl 20 (by decide) fl79 (fun _ h9 => h9) rfl dX9_gap_66 ?_
              refine lv_iload_n hx hb dX9_gap_69 rfl (lv_at hl 1 rfl) ?_
              refine lv_iconst (v := 1) hx hb dX9_gap_70 (by decide +kernel) ?_
              refine lv_iadd hx hb dX9_gap_71 ?_
              refine my_eqi (y := nI (ct + 1)) (my_addN ct 1) ?_
              refine va_iald hx hb hK hP 3 0 rfl rfl (vp_in_nI (by omega) (by omega)) dX9_gap_72 ?_
              refine my_eqi (y := mg_9 (ct + 1)) (congrArg mg_9 (nI_clamp (by omega))) ?_
              have hb_27 := hR_mg_9 (ct + 1)
              refine lv_aload_n hx hb dX9_gap_73 rfl (lv_at hl 2 rfl) ?_
              refine va_get (ci := 9) (v := .ref a_sorted) (C := RX9) (T := TX9) (N := 24) hx hb hts hi9 hown hK hP 0 rfl rfl 20 (by decide) fl79 (fun _ h9 => h9) rfl dX9_gap_74 ?_
              refine lv_iload_n hx hb dX9_gap_77 rfl (lv_at hl 1 rfl) ?_
              refine va_iald hx hb hK hP 3 0 rfl rfl (vp_in_nI (by omega) (by omega)) dX9_gap_78 ?_
              refine my_eqi (y := mg_9 ct) (congrArg mg_9 (nI_clamp (by omega))) ?_
              have hb_28 := hR_mg_9 ct
              refine lv_isub hx hb dX9_gap_79 ?_
              refine lv_topi (fun z_29 ez_29 => ?_)
              try have tz_29 : z_29.toInt = (mg_9 (ct + 1)).toInt - (mg_9 ct).toInt := by rw [ez_29]; exact my_subI rfl rfl (by omega) (by omega)
              refine lv_icmp_le (tgt := 88) hx hb dX9_gap_80 (by decide) (fun c80 => ?_) (fun c80 => ?_)
              ·
                have d80 : z_26.toInt ≤ z_29.toInt := my_le c80 rfl rfl
                refine lv_iload_n hx hb dX9_gap_88 rfl (lv_at hl 1 rfl) ?_
                refine lv_istore_n (lv' := [(3, .int (nI ct)), (4, .int (nI k)), (0, .ref m0), (1, .int (nI a_1)), (2, .int (nI b_2))]) hx hb dX9_gap_89 rfl hl (by decide) rfl (fun ls hl => ?_)
                refine lv_iinc (v := nI (k + 1)) (lv' := [(4, .int (nI (k + 1))), (3, .int (nI ct)), (0, .ref m0), (1, .int (nI a_1)), (2, .int (nI b_2))]) hx hb dX9_gap_90 hl (k := 1) rfl (my_incN k 1 (by decide +kernel)) (by decide) rfl (fun ls hl => ?_)
                refine lv_goto (tgt := 37) hx hb dX9_gap_93 (by decide) ?_
                exact ih37  (k + 1) ct (by omega) (by first | assumption | omega | decide +kernel) (by first | assumption | omega | decide +kernel) (by first | assumption | omega | decide +kernel) (by first | assumption | omega | decide +kernel) (by first | assumption | omega | decide +kernel) (by first | exact gp_old hgp (by omega) | exact gp_new hgp (by omega)) _ _ ls hP hD hS (lv_sub hl [0, 1, 2, 3, 4] rfl)
              ·
                have d80 : z_26.toInt > z_29.toInt := my_nle c80 rfl rfl
                refine lv_iload hx hb dX9_gap_83 (lv_at hl 0 rfl) ?_
                refine lv_goto (tgt := 89) hx hb dX9_gap_85 (by decide) ?_
                refine lv_istore_n (lv' := [(3, .int (nI k)), (4, .int (nI k)), (0, .ref m0), (1, .int (nI a_1)), (2, .int (nI b_2))]) hx hb dX9_gap_89 rfl hl (by decide) rfl (fun ls hl => ?_)
                refine lv_iinc (v := nI (k + 1)) (lv' := [(4, .int (nI (k + 1))), (3, .int (nI k)), (0, .ref m0), (1, .int (nI a_1)), (2, .int (nI b_2))]) hx hb dX9_gap_90 hl (k := 1) rfl (my_incN k 1 (by decide +kernel)) (by decide) rfl (fun ls hl => ?_)
                refine lv_goto (tgt := 37) hx hb dX9_gap_93 (by decide) ?_
                exact ih37  (k + 1) k (by omega) (by first | assumption | omega | decide +kernel) (by first | assumption | omega | decide +kernel) (by first | assumption | omega | decide +kernel) (by first | assumption | omega | decide +kernel) (by first | assumption | omega | decide +kernel) (by first | exact gp_old hgp (by omega) | exact gp_new hgp (by omega)) _ _ ls hP hD hS (lv_sub hl [0, 1, 2, 3, 4] rfl)
        exact loop37 ((64 - 1) + 1) 1 0 (Nat.lt_succ_self _) (by first | assumption | omega | decide +kernel) (by first | assumption | omega | decide +kernel) (by first | assumption | omega | decide +kernel) (by first | assumption | omega | decide +kernel) (by first | assumption | omega | decide +kernel) (gp_0) _ _ ls hP hD hS (lv_sub hl [0, 1, 2, 3, 4] rfl)
      ·
        have d20 : z_6.toInt < (2 : Int) := my_nge c20 rfl (by decide +kernel)
        refine lv_bipush (v := (-2)) hx hb dX9_gap_23 (by decide +kernel) ?_
        have hsI_l9 : (nI a_1).toInt = ((a_1 : Nat) : Int) := nI_toInt (by omega)
        have hsN_l9 : (nI a_1).toInt.toNat = a_1 := nIt (by omega)
        have hsI_r9 : (nI b_2).toInt = ((b_2 : Nat) : Int) := nI_toInt (by omega)
        have hsN_r9 : (nI b_2).toInt.toNat = b_2 := nIt (by omega)
        exact my_retI hx hb hr hlocks hK hS (wl_k_X9_gap cI cJ cK m0 a_row a_tape a_number a_read a_readBits a_stands a_parted a_bitsWere a_stood a_chosen a_bestChosen a_often a_sorted a_risen a_risenWays 0 (nI m_told) (nI m_taped) (nI m_at) (nI m_to) (nI m_many) (nI m_readMany) m_fewest (nI m_size) mn mf mg mr) hP hD (Or.inr (Or.inl ⟨0, rfl, rfl, (by first | assumption | omega | trivial | decide +kernel), (by first | assumption | omega | trivial | decide +kernel), (by first | assumption | omega | trivial | decide +kernel), (by first | assumption | omega | trivial | decide +kernel)⟩)) dX9_gap_25
    ·
      exact absurd c11 (by decide +kernel)
  ·
    refine lv_if_ne (tgt := 16) hx hb dX9_gap_11 (by decide) (fun c11 => ?_) (fun c11 => ?_)
    ·
      exact absurd c11 (by decide +kernel)
    ·
      refine lv_iconst (v := (-1)) hx hb dX9_gap_14 (by decide +kernel) ?_
      exact my_retI hx hb hr hlocks hK hS (wl_k_X9_gap cI cJ cK m0 a_row a_tape a_number a_read a_readBits a_stands a_parted a_bitsWere a_stood a_chosen a_bestChosen a_often a_sorted a_risen a_risenWays 0 (nI m_told) (nI m_taped) (nI m_at) (nI m_to) (nI m_many) (nI m_readMany) m_fewest (nI m_size) mn mf mg mr) hP hD (Or.inl ⟨0, rfl, rfl, (by first | assumption | omega | trivial | decide +kernel)⟩) dX9_gap_15
abbrev wl_k_X9_narrow (cI cJ cK : ClassId) (m0 : Nat) (a_row : Nat) (a_tape : Nat) (a_number : Nat) (a_read : Nat) (a_readBits : Nat) (a_stands : Nat) (a_parted : Nat) (a_bitsWere : Nat) (a_stood : Nat) (a_chosen : Nat) (a_bestChosen : Nat) (a_often : Nat) (a_sorted : Nat) (a_risen : Nat) (a_risenWays : Nat) (v0_ : Int32) (v1_ : Int32) (v2_ : Int32) (v3_ : Int32) (v4_ : Int32) (v5_ : Int32) (v6_ : Int32) (v7_ : Int32) (v8_ : Int32) (v9_ : Nat → Int32) (v10_ : Nat → Int64) : va_W := [(m0, .inr (9, [.int v0_, .int v1_, .ref a_row, .ref a_tape, .int v2_, .int v3_, .int v4_, .int v5_, .ref a_number, .ref a_read, .int v6_, .ref a_readBits, .ref a_stands, .ref a_parted, .ref a_bitsWere, .ref a_stood, .ref a_chosen, .ref a_bestChosen, .int v7_, .ref a_often, .ref a_sorted, .int v8_, .ref a_risen, .ref a_risenWays])), (a_number, .inl (cI, 64, .inl v9_)), (a_row, .inl (cJ, 64, .inr (.inl v10_)))]
set_option maxHeartbeats 4000000 in
set_option maxRecDepth 100000 in
theorem k_X9_narrow (l : Launch) (D : va_G) (cI cJ cK : ClassId) (m0 : Nat) (a_row : Nat) (a_tape : Nat) (a_number : Nat) (a_read : Nat) (a_readBits : Nat) (a_stands : Nat) (a_parted : Nat) (a_bitsWere : Nat) (a_stood : Nat) (a_chosen : Nat) (a_bestChosen : Nat) (a_often : Nat) (a_sorted : Nat) (a_risen : Nat) (a_risenWays : Nat) (m_thrown : Int32) (m_told : Nat) (m_taped : Nat) (m_at : Nat) (m_to : Nat) (m_many : Nat) (m_readMany : Nat) (m_fewest : Int32) (m_size : Nat) (mn : Nat → Int32) (mr : Nat → Int64) (v9 : Int32) (m9 : Int32) (hz_m_told : m_told ≤ 64) (hz_m_taped : m_taped ≤ 100) (hz_m_at : m_at ≤ 100) (hz_m_to : m_to ≤ 100) (hz_m_many : m_many ≤ 64) (hz_m_readMany : m_readMany ≤ 64) (hz_m_size : m_size ≤ 64) (hR_mn : RB 0 255 mn) : ctI l yX9_narrow wsX9_narrow ({ frames := 2, cells := 0, slots := 0, locals := 120 } : Room) D (tyIJ cI cJ cK) [.ref m0, .int v9, .int m9] (wl_k_X9_narrow cI cJ cK m0 a_row a_tape a_number a_read a_readBits a_stands a_parted a_bitsWere a_stood a_chosen a_bestChosen a_often a_sorted a_risen a_risenWays m_thrown (nI m_told) (nI m_taped) (nI m_at) (nI m_to) (nI m_many) (nI m_readMany) m_fewest (nI m_size) mn mr) (fun (r : Int32) (u : va_W) => (∃ (m_thrown' : Int32), u = (wl_k_X9_narrow cI cJ cK m0 a_row a_tape a_number a_read a_readBits a_stands a_parted a_bitsWere a_stood a_chosen a_bestChosen a_often a_sorted a_risen a_risenWays m_thrown' (nI m_told) (nI m_taped) (nI m_at) (nI m_to) (nI m_many) (nI m_readMany) m_fewest (nI m_size) mn mr) ∧ r = (-1) ∧ (v9.toInt < 0 ∨ 255 < v9.toInt ∨ m9.toInt < 1 ∨ 64 < m9.toInt)) ∨ (∃ (m_thrown' : Int32), u = (wl_k_X9_narrow cI cJ cK m0 a_row a_tape a_number a_read a_readBits a_stands a_parted a_bitsWere a_stood a_chosen a_bestChosen a_often a_sorted a_risen a_risenWays m_thrown' (nI m_told) (nI m_taped) (nI m_at) (nI m_to) (nI m_many) (nI m_readMany) m_fewest (nI m_size) mn mr) ∧ r = (-2) ∧ 0 ≤ v9.toInt ∧ v9.toInt ≤ 255 ∧ 1 ≤ m9.toInt ∧ m9.toInt ≤ 64 ∧ nrN mn v9.toInt.toNat m9.toInt.toNat m_many) ∨ (∃ (m_thrown' : Int32) (m_told' : Nat) (mr' : Nat → Int64), u = (wl_k_X9_narrow cI cJ cK m0 a_row a_tape a_number a_read a_readBits a_stands a_parted a_bitsWere a_stood a_chosen a_bestChosen a_often a_sorted a_risen a_risenWays m_thrown' (nI m_told') (nI m_taped) (nI m_at) (nI m_to) (nI m_many) (nI m_readMany) m_fewest (nI m_size) mn mr') ∧ m_told' ≤ 64 ∧ 0 ≤ v9.toInt ∧ v9.toInt ≤ 255 ∧ 1 ≤ m9.toInt ∧ m9.toInt ≤ 64 ∧ 0 ≤ r.toInt ∧ nrA mn v9.toInt.toNat m9.toInt.toNat m_many r ∧ m_told' = 3)) := by
  refine ctI.of (cc := cX9_narrow) (maxL := 10) (ret := (some .int)) (by decide) rfl (Nat.le_of_ble_eq_true rfl) ?_
  intro p e s m below meth c ls A hx hb hr hts hown hml hlocks hname hA hK hN hP hD hS hl
  have hl : lv_has ls 10 [(0, .ref m0), (1, .int v9), (2, .int m9)] := hl
  have hown : s.vm.findClass RX9 = some m.cls := hown
  have hi9 : ∀ w ∈ u_ws RX9 TX9 24, w ∈ wsX9_narrow := by decide +kernel
  have fl1 := hts (.fieldLink RX9 1 "PlaneColumnModel" "thrown" "I") (by decide +kernel)
  have fl11 := hts (.fieldLink RX9 11 "PlaneColumnModel" "told" "I") (by decide +kernel)
  have fl49 := hts (.fieldLink RX9 49 "PlaneColumnModel" "number" "[I") (by decide +kernel)
  have fl88 := hts (.fieldLink RX9 88 "PlaneColumnModel" "many" "I") (by decide +kernel)
  refine lv_aload_n hx hb dX9_narrow_0 rfl (lv_at hl 0 rfl) ?_
  refine lv_iconst (v := 0) hx hb dX9_narrow_1 (by decide +kernel) ?_
  refine va_put (ci := 9) (v := .int 0) (ty := (.int)) (C := RX9) (T := TX9) (N := 24) hx hb hts hi9 tyX9 tyX9_ok nmX9 hown hK hP hD hS 0 rfl rfl 0 (by decide) fl1 (fun _ h9 => h9) rfl (by decide +kernel) rfl rfl (Nat.le_of_ble_eq_true rfl) dX9_narrow_2 (fun H locs hP hD hS => ?_)
  have hP : va_P D vwCl (wl_k_X9_narrow cI cJ cK m0 a_row a_tape a_number a_read a_readBits a_stands a_parted a_bitsWere a_stood a_chosen a_bestChosen a_often a_sorted a_risen a_risenWays 0 (nI m_told) (nI m_taped) (nI m_at) (nI m_to) (nI m_many) (nI m_readMany) m_fewest (nI m_size) mn mr) H := hP
  have hD : va_D A (wl_k_X9_narrow cI cJ cK m0 a_row a_tape a_number a_read a_readBits a_stands a_parted a_bitsWere a_stood a_chosen a_bestChosen a_often a_sorted a_risen a_risenWays 0 (nI m_told) (nI m_taped) (nI m_at) (nI m_to) (nI m_many) (nI m_readMany) m_fewest (nI m_size) mn mr) := hD
  refine lv_iload_n hx hb dX9_narrow_5 rfl (lv_at hl 1 rfl) ?_
  refine my_gpI (my_pS (As := [.int v9]) (rest := []) ⟨hx, hb, hml, hown, hts⟩ (va_cwS 1 hts gX9_narrow_X9_isNumber rfl rfl rfl (by decide +kernel) ⟨Nat.le_of_ble_eq_true rfl, Nat.le_of_ble_eq_true rfl⟩) hN hK hP [] rfl rfl hl.1 rfl (Nat.le_of_ble_eq_true rfl) dX9_narrow_6 ⟨Nat.le_of_ble_eq_true rfl, Nat.le_of_ble_eq_true rfl⟩  (k_X9_isNumber l D cI cJ cK v9)) (fun r hp => ?_)
  rcases hp with ⟨k_1, rfl, rfl, ha_2⟩ | ⟨rfl, ho_3⟩
  ·
    refine lv_if_eq (tgt := 24) hx hb dX9_narrow_9 (by decide) (fun c9 => ?_) (fun c9 => ?_)
    ·
      exact absurd c9 (by decide +kernel)
    ·
      refine lv_iload_n hx hb dX9_narrow_12 rfl (lv_at hl 2 rfl) ?_
      refine lv_i2l (v := m9.toInt64) hx hb dX9_narrow_13 rfl ?_
      refine lv_lconst (v := 1) hx hb dX9_narrow_14 (by decide +kernel) ?_
      refine lv_ldc2 (v := 64) hx hb hown (hts (.constantLong RX9 202 (64)) (by decide +kernel)) dX9_narrow_15 ?_
      refine my_gpI (my_pS (As := [.long m9.toInt64, .long 1, .long 64]) (rest := []) ⟨hx, hb, hml, hown, hts⟩ (va_cwS 3 hts gX9_narrow_X9_in rfl rfl rfl (by decide +kernel) ⟨Nat.le_of_ble_eq_true rfl, Nat.le_of_ble_eq_true rfl⟩) hN hK hP [] rfl rfl hl.1 rfl (Nat.le_of_ble_eq_true rfl) dX9_narrow_18 ⟨Nat.le_of_ble_eq_true rfl, Nat.le_of_ble_eq_true rfl⟩  (k_X9_in l D cI cJ cK m9.toInt64 (1 : Int64) (64 : Int64) m9.toInt (Int32.toInt_toInt64 _) (1 : Int) (by decide +kernel) (64 : Int) (by decide +kernel))) (fun r hp => ?_)
      rcases hp with ⟨rfl, ha_4, hb_5⟩ | ⟨rfl, ho_6⟩
      ·
        refine lv_if_ne (tgt := 26) hx hb dX9_narrow_21 (by decide) (fun c21 => ?_) (fun c21 => ?_)
        ·
          obtain ⟨w_7, rfl, hw_7⟩ := my_natP (x := m9) (by omega)
          have hlw_7 : w_7 < 2147483648 := by have h9 := Int32.toInt_lt (nI w_7); omega
          refine lv_iconst (v := (-1)) hx hb dX9_narrow_26 (by decide +kernel) ?_
          refine lv_istore_n (lv' := [(3, .int (-1)), (0, .ref m0), (1, .int (nI k_1)), (2, .int (nI w_7))]) hx hb dX9_narrow_27 rfl hl (by decide) rfl (fun ls hl => ?_)
          refine lv_iconst (v := 0) hx hb dX9_narrow_28 (by decide +kernel) ?_
          refine lv_istore (lv' := [(4, .int 0), (3, .int (-1)), (0, .ref m0), (1, .int (nI k_1)), (2, .int (nI w_7))]) hx hb dX9_narrow_29 hl (by decide) rfl (fun ls hl => ?_)
          refine lv_iconst (v := 0) hx hb dX9_narrow_31 (by decide +kernel) ?_
          refine lv_istore (lv' := [(5, .int 0), (4, .int 0), (3, .int (-1)), (0, .ref m0), (1, .int (nI k_1)), (2, .int (nI w_7))]) hx hb dX9_narrow_32 hl (by decide) rfl (fun ls hl => ?_)
          refine lv_iconst (v := 0) hx hb dX9_narrow_34 (by decide +kernel) ?_
          refine lv_istore (lv' := [(6, .int 0), (5, .int 0), (4, .int 0), (3, .int (-1)), (0, .ref m0), (1, .int (nI k_1)), (2, .int (nI w_7))]) hx hb dX9_narrow_35 hl (by decide) rfl (fun ls hl => ?_)
          have loop37 : ∀ (n9 : Nat) (k : Nat) (y5_37 : Int32) (y4_37 : Int32) (x : Int32), 64 - k < n9 → (k ≤ 64) → (k ≤ m_many) → (-1 ≤ x.toInt) → (x.toInt ≤ 64) → (nrP mn k_1 w_7 m_many x.toInt k) → ∀ (H : Heap) (locs : List Loc) (ls : Array Slot), va_P D vwCl (wl_k_X9_narrow cI cJ cK m0 a_row a_tape a_number a_read a_readBits a_stands a_parted a_bitsWere a_stood a_chosen a_bestChosen a_often a_sorted a_risen a_risenWays 0 (nI m_told) (nI m_taped) (nI m_at) (nI m_to) (nI m_many) (nI m_readMany) m_fewest (nI m_size) mn mr) H → va_D A (wl_k_X9_narrow cI cJ cK m0 a_row a_tape a_number a_read a_readBits a_stands a_parted a_bitsWere a_stood a_chosen a_bestChosen a_often a_sorted a_risen a_risenWays 0 (nI m_told) (nI m_taped) (nI m_at) (nI m_to) (nI m_many) (nI m_readMany) m_fewest (nI m_size) mn mr) → va_S A s.heap H locs → lv_has ls 10 [(6, .int (nI k)), (5, .int y5_37), (4, .int y4_37), (3, .int x), (0, .ref m0), (1, .int (nI k_1)), (2, .int (nI w_7))] → W p l e ({ frames := 2, cells := 0, slots := 0, locals := 120 } : Room) s m [.ref m0, .int (nI k_1), .int (nI w_7)].toArray below meth c H locs 0 0 (MQ below (va_Qi (fun (r : Int32) (u : va_W) => (∃ (m_thrown' : Int32), u = (wl_k_X9_narrow cI cJ cK m0 a_row a_tape a_number a_read a_readBits a_stands a_parted a_bitsWere a_stood a_chosen a_bestChosen a_often a_sorted a_risen a_risenWays m_thrown' (nI m_told) (nI m_taped) (nI m_at) (nI m_to) (nI m_many) (nI m_readMany) m_fewest (nI m_size) mn mr) ∧ r = (-1) ∧ ((nI k_1).toInt < 0 ∨ 255 < (nI k_1).toInt ∨ (nI w_7).toInt < 1 ∨ 64 < (nI w_7).toInt)) ∨ (∃ (m_thrown' : Int32), u = (wl_k_X9_narrow cI cJ cK m0 a_row a_tape a_number a_read a_readBits a_stands a_parted a_bitsWere a_stood a_chosen a_bestChosen a_often a_sorted a_risen a_risenWays m_thrown' (nI m_told) (nI m_taped) (nI m_at) (nI m_to) (nI m_many) (nI m_readMany) m_fewest (nI m_size) mn mr) ∧ r = (-2) ∧ 0 ≤ (nI k_1).toInt ∧ (nI k_1).toInt ≤ 255 ∧ 1 ≤ (nI w_7).toInt ∧ (nI w_7).toInt ≤ 64 ∧ nrN mn (nI k_1).toInt.toNat (nI w_7).toInt.toNat m_many) ∨ (∃ (m_thrown' : Int32) (m_told' : Nat) (mr' : Nat → Int64), u = (wl_k_X9_narrow cI cJ cK m0 a_row a_tape a_number a_read a_readBits a_stands a_parted a_bitsWere a_stood a_chosen a_bestChosen a_often a_sorted a_risen a_risenWays m_thrown' (nI m_told') (nI m_taped) (nI m_at) (nI m_to) (nI m_many) (nI m_readMany) m_fewest (nI m_size) mn mr') ∧ m_told' ≤ 64 ∧ 0 ≤ (nI k_1).toInt ∧ (nI k_1).toInt ≤ 255 ∧ 1 ≤ (nI w_7).toInt ∧ (nI w_7).toInt ≤ 64 ∧ 0 ≤ r.toInt ∧ nrA mn (nI k_1).toInt.toNat (nI w_7).toInt.toNat m_many r ∧ m_told' = 3)) (my_B D (tyIJ cI cJ cK) A) A) [.ref m0, .int (nI k_1), .int (nI w_7)].toArray s 0 0 A) (F0 m 37 ls []) := by
            intro n9
            induction n9 with
            | zero =>
              intro k y5_37 y4_37 x hn9
              exact absurd hn9 (Nat.not_lt_zero _)
            | succ n9 ih37 =>
              intro k y5_37 y4_37 x hn9 hk_k hkz hx0 hx1 hnr H locs ls hP hD hS hl
              refine lv_iload hx hb dX9_narrow_37 (lv_at hl 0 rfl) ?_
              refine lv_aload_n hx hb dX9_narrow_39 rfl (lv_at hl 4 rfl) ?_
              refine va_get (ci := 9) (v := .int (nI m_many)) (C := RX9) (T := TX9) (N := 24) hx hb hts hi9 hown hK hP 0 rfl rfl 7 (by decide) fl88 (fun _ h9 => h9) rfl dX9_narrow_40 ?_
              refine lv_icmp_ge (tgt := 201) hx hb dX9_narrow_43 (by decide) (fun c43 => ?_) (fun c43 => ?_)
              ·
                have d43 : ((k : Nat) : Int) ≥ ((m_many : Nat) : Int) := my_ge c43 (nI_toInt (by omega)) (nI_toInt (by omega))
                refine lv_iload_n hx hb dX9_narrow_201 rfl (lv_at hl 3 rfl) ?_
                refine lv_if_ge (tgt := 208) hx hb dX9_narrow_202 (by decide) (fun c202 => ?_) (fun c202 => ?_)
                ·
                  have d202 : x.toInt ≥ (0 : Int) := my_ge c202 rfl (by decide +kernel)
                  refine lv_aload_n hx hb dX9_narrow_208 rfl (lv_at hl 4 rfl) ?_
                  refine lv_iconst (v := 0) hx hb dX9_narrow_209 (by decide +kernel) ?_
                  refine va_put (ci := 9) (v := .int 0) (ty := (.int)) (C := RX9) (T := TX9) (N := 24) hx hb hts hi9 tyX9 tyX9_ok nmX9 hown hK hP hD hS 0 rfl rfl 1 (by decide) fl11 (fun _ h9 => h9) rfl (by decide +kernel) rfl rfl (Nat.le_of_ble_eq_true rfl) dX9_narrow_210 (fun H locs hP hD hS => ?_)
                  have hP : va_P D vwCl (wl_k_X9_narrow cI cJ cK m0 a_row a_tape a_number a_read a_readBits a_stands a_parted a_bitsWere a_stood a_chosen a_bestChosen a_often a_sorted a_risen a_risenWays 0 0 (nI m_taped) (nI m_at) (nI m_to) (nI m_many) (nI m_readMany) m_fewest (nI m_size) mn mr) H := hP
                  have hD : va_D A (wl_k_X9_narrow cI cJ cK m0 a_row a_tape a_number a_read a_readBits a_stands a_parted a_bitsWere a_stood a_chosen a_bestChosen a_often a_sorted a_risen a_risenWays 0 0 (nI m_taped) (nI m_at) (nI m_to) (nI m_many) (nI m_readMany) m_fewest (nI m_size) mn mr) := hD
                  refine lv_aload_n hx hb dX9_narrow_213 rfl (lv_at hl 4 rfl) ?_
                  refine lv_iload hx hb dX9_narrow_214 (lv_at hl 2 rfl) ?_
                  refine lv_i2l (v := y4_37.toInt64) hx hb dX9_narrow_216 rfl ?_
                  refine my_goVS (wc := (wl_k_X9_enters cI cJ cK m0 a_row a_tape a_number a_read a_readBits a_stands a_parted a_bitsWere a_stood a_chosen a_bestChosen a_often a_sorted a_risen a_risenWays 0 0 (nI m_taped) (nI m_at) (nI m_to) (nI m_many) (nI m_readMany) m_fewest (nI m_size) mr)) hP hD hS hA [0, 2] rfl [some 0, none, some 1] (by decide +kernel) (my_cV (As := [.long y4_37.toInt64]) (rest := []) (ci := 9) (wc := (wl_k_X9_enters cI cJ cK m0 a_row a_tape a_number a_read a_readBits a_stands a_parted a_bitsWere a_stood a_chosen a_bestChosen a_often a_sorted a_risen a_risenWays 0 0 (nI m_taped) (nI m_at) (nI m_to) (nI m_many) (nI m_readMany) m_fewest (nI m_size) mr)) ⟨hx, hb, hml, hown, hts⟩ (cwV 1 hts gX9_narrow_X9_enters rfl rfl rfl (by decide +kernel) ⟨Nat.le_of_ble_eq_true rfl, Nat.le_of_ble_eq_true rfl⟩) hN hK hP hD [0, 2] rfl (by decide) rfl 0 rfl rfl rfl rfl hl.1 rfl (Nat.le_of_ble_eq_true rfl) dX9_narrow_217 ⟨Nat.le_of_ble_eq_true rfl, Nat.le_of_ble_eq_true rfl⟩  ((k_X9_enters l D cI cJ cK m0 a_row a_tape a_number a_read a_readBits a_stands a_parted a_bitsWere a_stood a_chosen a_bestChosen a_often a_sorted a_risen a_risenWays (0 : Int32) 0 m_taped m_at m_to m_many m_readMany m_fewest m_size mr y4_37.toInt64 (by first | assumption | omega | decide +kernel) (by first | assumption | omega | decide +kernel) (by first | assumption | omega | decide +kernel) (by first | assumption | omega | decide +kernel) (by first | assumption | omega | decide +kernel) (by first | assumption | omega | decide +kernel) (by first | assumption | omega | decide +kernel) (by first | assumption | omega | decide +kernel)) _)) (fun u H locs hp hPD hS => ?_)
                  obtain ⟨m_told_8, mr_9, rfl, hhz_m_told_10, ht_11⟩ := hp
                  obtain ⟨hP, hD⟩ := hPD rfl
                  have hP : va_P D vwCl (wl_k_X9_narrow cI cJ cK m0 a_row a_tape a_number a_read a_readBits a_stands a_parted a_bitsWere a_stood a_chosen a_bestChosen a_often a_sorted a_risen a_risenWays 0 (nI m_told_8) (nI m_taped) (nI m_at) (nI m_to) (nI m_many) (nI m_readMany) m_fewest (nI m_size) mn mr_9) H := hP
                  have hD : va_D A (wl_k_X9_narrow cI cJ cK m0 a_row a_tape a_number a_read a_readBits a_stands a_parted a_bitsWere a_stood a_chosen a_bestChosen a_often a_sorted a_risen a_risenWays 0 (nI m_told_8) (nI m_taped) (nI m_at) (nI m_to) (nI m_many) (nI m_readMany) m_fewest (nI m_size) mn mr_9) := hD
                  refine lv_aload_n hx hb dX9_narrow_220 rfl (lv_at hl 4 rfl) ?_
                  refine lv_iload hx hb dX9_narrow_221 (lv_at hl 2 rfl) ?_
                  refine lv_iload_n hx hb dX9_narrow_223 rfl (lv_at hl 3 rfl) ?_
                  refine lv_iadd hx hb dX9_narrow_224 ?_
                  refine lv_topi (fun z_12 ez_12 => ?_)
                  try have tz_12 : z_12.toInt = y4_37.toInt + x.toInt := by rw [ez_12]; exact my_addI rfl rfl (by omega) (by omega)
                  refine lv_i2l (v := z_12.toInt64) hx hb dX9_narrow_225 rfl ?_
                  refine my_goVS (wc := (wl_k_X9_enters cI cJ cK m0 a_row a_tape a_number a_read a_readBits a_stands a_parted a_bitsWere a_stood a_chosen a_bestChosen a_often a_sorted a_risen a_risenWays 0 (nI m_told_8) (nI m_taped) (nI m_at) (nI m_to) (nI m_many) (nI m_readMany) m_fewest (nI m_size) mr_9)) hP hD hS hA [0, 2] rfl [some 0, none, some 1] (by decide +kernel) (my_cV (As := [.long z_12.toInt64]) (rest := []) (ci := 9) (wc := (wl_k_X9_enters cI cJ cK m0 a_row a_tape a_number a_read a_readBits a_stands a_parted a_bitsWere a_stood a_chosen a_bestChosen a_often a_sorted a_risen a_risenWays 0 (nI m_told_8) (nI m_taped) (nI m_at) (nI m_to) (nI m_many) (nI m_readMany) m_fewest (nI m_size) mr_9)) ⟨hx, hb, hml, hown, hts⟩ (cwV 1 hts gX9_narrow_X9_enters rfl rfl rfl (by decide +kernel) ⟨Nat.le_of_ble_eq_true rfl, Nat.le_of_ble_eq_true rfl⟩) hN hK hP hD [0, 2] rfl (by decide) rfl 0 rfl rfl rfl rfl hl.1 rfl (Nat.le_of_ble_eq_true rfl) dX9_narrow_226 ⟨Nat.le_of_ble_eq_true rfl, Nat.le_of_ble_eq_true rfl⟩  ((k_X9_enters l D cI cJ cK m0 a_row a_tape a_number a_read a_readBits a_stands a_parted a_bitsWere a_stood a_chosen a_bestChosen a_often a_sorted a_risen a_risenWays (0 : Int32) m_told_8 m_taped m_at m_to m_many m_readMany m_fewest m_size mr_9 z_12.toInt64 (by first | assumption | omega | decide +kernel) (by first | assumption | omega | decide +kernel) (by first | assumption | omega | decide +kernel) (by first | assumption | omega | decide +kernel) (by first | assumption | omega | decide +kernel) (by first | assumption | omega | decide +kernel) (by first | assumption | omega | decide +kernel) (by first | assumption | omega | decide +kernel)) _)) (fun u H locs hp hPD hS => ?_)
                  obtain ⟨m_told_13, mr_14, rfl, hhz_m_told_15, ht_16⟩ := hp
                  obtain ⟨hP, hD⟩ := hPD rfl
                  have hP : va_P D vwCl (wl_k_X9_narrow cI cJ cK m0 a_row a_tape a_number a_read a_readBits a_stands a_parted a_bitsWere a_stood a_chosen a_bestChosen a_often a_sorted a_risen a_risenWays 0 (nI m_told_13) (nI m_taped) (nI m_at) (nI m_to) (nI m_many) (nI m_readMany) m_fewest (nI m_size) mn mr_14) H := hP
                  have hD : va_D A (wl_k_X9_narrow cI cJ cK m0 a_row a_tape a_number a_read a_readBits a_stands a_parted a_bitsWere a_stood a_chosen a_bestChosen a_often a_sorted a_risen a_risenWays 0 (nI m_told_13) (nI m_taped) (nI m_at) (nI m_to) (nI m_many) (nI m_readMany) m_fewest (nI m_size) mn mr_14) := hD
                  refine lv_aload_n hx hb dX9_narrow_229 rfl (lv_at hl 4 rfl) ?_
                  refine lv_iload hx hb dX9_narrow_230 (lv_at hl 1 rfl) ?_
                  refine lv_i2l (v := y5_37.toInt64) hx hb dX9_narrow_232 rfl ?_
                  refine my_goVS (wc := (wl_k_X9_enters cI cJ cK m0 a_row a_tape a_number a_read a_readBits a_stands a_parted a_bitsWere a_stood a_chosen a_bestChosen a_often a_sorted a_risen a_risenWays 0 (nI m_told_13) (nI m_taped) (nI m_at) (nI m_to) (nI m_many) (nI m_readMany) m_fewest (nI m_size) mr_14)) hP hD hS hA [0, 2] rfl [some 0, none, some 1] (by decide +kernel) (my_cV (As := [.long y5_37.toInt64]) (rest := []) (ci := 9) (wc := (wl_k_X9_enters cI cJ cK m0 a_row a_tape a_number a_read a_readBits a_stands a_parted a_bitsWere a_stood a_chosen a_bestChosen a_often a_sorted a_risen a_risenWays 0 (nI m_told_13) (nI m_taped) (nI m_at) (nI m_to) (nI m_many) (nI m_readMany) m_fewest (nI m_size) mr_14)) ⟨hx, hb, hml, hown, hts⟩ (cwV 1 hts gX9_narrow_X9_enters rfl rfl rfl (by decide +kernel) ⟨Nat.le_of_ble_eq_true rfl, Nat.le_of_ble_eq_true rfl⟩) hN hK hP hD [0, 2] rfl (by decide) rfl 0 rfl rfl rfl rfl hl.1 rfl (Nat.le_of_ble_eq_true rfl) dX9_narrow_233 ⟨Nat.le_of_ble_eq_true rfl, Nat.le_of_ble_eq_true rfl⟩  ((k_X9_enters l D cI cJ cK m0 a_row a_tape a_number a_read a_readBits a_stands a_parted a_bitsWere a_stood a_chosen a_bestChosen a_often a_sorted a_risen a_risenWays (0 : Int32) m_told_13 m_taped m_at m_to m_many m_readMany m_fewest m_size mr_14 y5_37.toInt64 (by first | assumption | omega | decide +kernel) (by first | assumption | omega | decide +kernel) (by first | assumption | omega | decide +kernel) (by first | assumption | omega | decide +kernel) (by first | assumption | omega | decide +kernel) (by first | assumption | omega | decide +kernel) (by first | assumption | omega | decide +kernel) (by first | assumption | omega | decide +kernel)) _)) (fun u H locs hp hPD hS => ?_)
                  obtain ⟨m_told_17, mr_18, rfl, hhz_m_told_19, ht_20⟩ := hp
                  obtain ⟨hP, hD⟩ := hPD rfl
                  have hP : va_P D vwCl (wl_k_X9_narrow cI cJ cK m0 a_row a_tape a_number a_read a_readBits a_stands a_parted a_bitsWere a_stood a_chosen a_bestChosen a_often a_sorted a_risen a_risenWays 0 (nI m_told_17) (nI m_taped) (nI m_at) (nI m_to) (nI m_many) (nI m_readMany) m_fewest (nI m_size) mn mr_18) H := hP
                  have hD : va_D A (wl_k_X9_narrow cI cJ cK m0 a_row a_tape a_number a_read a_readBits a_stands a_parted a_bitsWere a_stood a_chosen a_bestChosen a_often a_sorted a_risen a_risenWays 0 (nI m_told_17) (nI m_taped) (nI m_at) (nI m_to) (nI m_many) (nI m_readMany) m_fewest (nI m_size) mn mr_18) := hD
                  refine lv_iload_n hx hb dX9_narrow_236 rfl (lv_at hl 3 rfl) ?_
                  have hsI_v9 : (nI k_1).toInt = ((k_1 : Nat) : Int) := nI_toInt (by omega)
                  have hsN_v9 : (nI k_1).toInt.toNat = k_1 := nIt (by omega)
                  have hsI_m9 : (nI w_7).toInt = ((w_7 : Nat) : Int) := nI_toInt (by omega)
                  have hsN_m9 : (nI w_7).toInt.toNat = w_7 := nIt (by omega)
                  exact my_retI hx hb hr hlocks hK hS (wl_k_X9_narrow cI cJ cK m0 a_row a_tape a_number a_read a_readBits a_stands a_parted a_bitsWere a_stood a_chosen a_bestChosen a_often a_sorted a_risen a_risenWays 0 (nI m_told_17) (nI m_taped) (nI m_at) (nI m_to) (nI m_many) (nI m_readMany) m_fewest (nI m_size) mn mr_18) hP hD (Or.inr (Or.inr (⟨0, m_told_17, mr_18, rfl, (by first | assumption | omega | trivial | decide +kernel), (by first | assumption | omega | trivial | decide +kernel), (by first | assumption | omega | trivial | decide +kernel), (by first | assumption | omega | trivial | decide +kernel), (by first | assumption | omega | trivial | decide +kernel), (by first | assumption | omega | trivial | decide +kernel), (by rw [hsN_v9, hsN_m9]; exact nr_yes hnr (by omega) (by omega) rfl), (by first | assumption | omega | trivial | decide +kernel)⟩))) dX9_narrow_237
                ·
                  have d202 : x.toInt < (0 : Int) := my_nge c202 rfl (by decide +kernel)
                  refine lv_bipush (v := (-2)) hx hb dX9_narrow_205 (by decide +kernel) ?_
                  have ec_21 : ((-2) : Int32).toInt = -2 := by decide +kernel
                  have hsI_v9 : (nI k_1).toInt = ((k_1 : Nat) : Int) := nI_toInt (by omega)
                  have hsN_v9 : (nI k_1).toInt.toNat = k_1 := nIt (by omega)
                  have hsI_m9 : (nI w_7).toInt = ((w_7 : Nat) : Int) := nI_toInt (by omega)
                  have hsN_m9 : (nI w_7).toInt.toNat = w_7 := nIt (by omega)
                  exact my_retI hx hb hr hlocks hK hS (wl_k_X9_narrow cI cJ cK m0 a_row a_tape a_number a_read a_readBits a_stands a_parted a_bitsWere a_stood a_chosen a_bestChosen a_often a_sorted a_risen a_risenWays 0 (nI m_told) (nI m_taped) (nI m_at) (nI m_to) (nI m_many) (nI m_readMany) m_fewest (nI m_size) mn mr) hP hD (Or.inr (Or.inl ⟨0, rfl, rfl, (by first | assumption | omega | trivial | decide +kernel), (by first | assumption | omega | trivial | decide +kernel), (by first | assumption | omega | trivial | decide +kernel), (by first | assumption | omega | trivial | decide +kernel), (by rw [hsN_v9, hsN_m9]; exact nr_no hnr (by omega) (by omega))⟩)) dX9_narrow_207
              ·
                have d43 : ((k : Nat) : Int) < ((m_many : Nat) : Int) := my_nge c43 (nI_toInt (by omega)) (nI_toInt (by omega))
                refine lv_iload hx hb dX9_narrow_46 (lv_at hl 0 rfl) ?_
                refine lv_istore (lv' := [(7, .int (nI k)), (6, .int (nI k)), (5, .int y5_37), (4, .int y4_37), (3, .int x), (0, .ref m0), (1, .int (nI k_1)), (2, .int (nI w_7))]) hx hb dX9_narrow_48 hl (by decide) rfl (fun ls hl => ?_)
                refine lv_iconst (v := 0) hx hb dX9_narrow_50 (by decide +kernel) ?_
                refine lv_istore (lv' := [(8, .int 0), (7, .int (nI k)), (6, .int (nI k)), (5, .int y5_37), (4, .int y4_37), (3, .int x), (0, .ref m0), (1, .int (nI k_1)), (2, .int (nI w_7))]) hx hb dX9_narrow_51 hl (by decide) rfl (fun ls hl => ?_)
                have loop53 : ∀ (n9 : Nat) (n : Nat) (j : Nat), 64 - j < n9 → (j ≤ 64) → (n ≤ 64) → (k ≤ j) → (j ≤ m_many) → (n + k ≤ j) → (n ≤ w_7) → (n = cn mn k_1 k j) → (n = w_7 → mn (j - 1) = nI k_1) → (n = w_7 → k < j) → ∀ (H : Heap) (locs : List Loc) (ls : Array Slot), va_P D vwCl (wl_k_X9_narrow cI cJ cK m0 a_row a_tape a_number a_read a_readBits a_stands a_parted a_bitsWere a_stood a_chosen a_bestChosen a_often a_sorted a_risen a_risenWays 0 (nI m_told) (nI m_taped) (nI m_at) (nI m_to) (nI m_many) (nI m_readMany) m_fewest (nI m_size) mn mr) H → va_D A (wl_k_X9_narrow cI cJ cK m0 a_row a_tape a_number a_read a_readBits a_stands a_parted a_bitsWere a_stood a_chosen a_bestChosen a_often a_sorted a_risen a_risenWays 0 (nI m_told) (nI m_taped) (nI m_at) (nI m_to) (nI m_many) (nI m_readMany) m_fewest (nI m_size) mn mr) → va_S A s.heap H locs → lv_has ls 10 [(8, .int (nI n)), (7, .int (nI j)), (6, .int (nI k)), (5, .int y5_37), (4, .int y4_37), (3, .int x), (0, .ref m0), (1, .int (nI k_1)), (2, .int (nI w_7))] → W p l e ({ frames := 2, cells := 0, slots := 0, locals := 120 } : Room) s m [.ref m0, .int (nI k_1), .int (nI w_7)].toArray below meth c H locs 0 0 (MQ below (va_Qi (fun (r : Int32) (u : va_W) => (∃ (m_thrown' : Int32), u = (wl_k_X9_narrow cI cJ cK m0 a_row a_tape a_number a_read a_readBits a_stands a_parted a_bitsWere a_stood a_chosen a_bestChosen a_often a_sorted a_risen a_risenWays m_thrown' (nI m_told) (nI m_taped) (nI m_at) (nI m_to) (nI m_many) (nI m_readMany) m_fewest (nI m_size) mn mr) ∧ r = (-1) ∧ ((nI k_1).toInt < 0 ∨ 255 < (nI k_1).toInt ∨ (nI w_7).toInt < 1 ∨ 64 < (nI w_7).toInt)) ∨ (∃ (m_thrown' : Int32), u = (wl_k_X9_narrow cI cJ cK m0 a_row a_tape a_number a_read a_readBits a_stands a_parted a_bitsWere a_stood a_chosen a_bestChosen a_often a_sorted a_risen a_risenWays m_thrown' (nI m_told) (nI m_taped) (nI m_at) (nI m_to) (nI m_many) (nI m_readMany) m_fewest (nI m_size) mn mr) ∧ r = (-2) ∧ 0 ≤ (nI k_1).toInt ∧ (nI k_1).toInt ≤ 255 ∧ 1 ≤ (nI w_7).toInt ∧ (nI w_7).toInt ≤ 64 ∧ nrN mn (nI k_1).toInt.toNat (nI w_7).toInt.toNat m_many) ∨ (∃ (m_thrown' : Int32) (m_told' : Nat) (mr' : Nat → Int64), u = (wl_k_X9_narrow cI cJ cK m0 a_row a_tape a_number a_read a_readBits a_stands a_parted a_bitsWere a_stood a_chosen a_bestChosen a_often a_sorted a_risen a_risenWays m_thrown' (nI m_told') (nI m_taped) (nI m_at) (nI m_to) (nI m_many) (nI m_readMany) m_fewest (nI m_size) mn mr') ∧ m_told' ≤ 64 ∧ 0 ≤ (nI k_1).toInt ∧ (nI k_1).toInt ≤ 255 ∧ 1 ≤ (nI w_7).toInt ∧ (nI w_7).toInt ≤ 64 ∧ 0 ≤ r.toInt ∧ nrA mn (nI k_1).toInt.toNat (nI w_7).toInt.toNat m_many r ∧ m_told' = 3)) (my_B D (tyIJ cI cJ cK) A) A) [.ref m0, .int (nI k_1), .int (nI w_7)].toArray s 0 0 A) (F0 m 53 ls []) := by
                  intro n9
                  induction n9 with
                  | zero =>
                    intro n j hn9
                    exact absurd hn9 (Nat.not_lt_zero _)
                  | succ n9 ih53 =>
                    intro n j hn9 hk_j hk_n hkj hjz hnj hnm hcn hlast hkl H locs ls hP hD hS hl
                    refine lv_iload hx hb dX9_narrow_53 (lv_at hl 1 rfl) ?_
                    refine lv_aload_n hx hb dX9_narrow_55 rfl (lv_at hl 6 rfl) ?_
                    refine va_get (ci := 9) (v := .int (nI m_many)) (C := RX9) (T := TX9) (N := 24) hx hb hts hi9 hown hK hP 0 rfl rfl 7 (by decide) fl88 (fun _ h9 => h9) rfl dX9_narrow_56 ?_
                    refine lv_icmp_ge (tgt := 98) hx hb dX9_narrow_59 (by decide) (fun c59 => ?_) (fun c59 => ?_)
                    ·
                      have d59 : ((j : Nat) : Int) ≥ ((m_many : Nat) : Int) := my_ge c59 (nI_toInt (by omega)) (nI_toInt (by omega))
                      refine lv_iload hx hb dX9_narrow_98 (lv_at hl 0 rfl) ?_
                      refine lv_iload_n hx hb dX9_narrow_100 rfl (lv_at hl 8 rfl) ?_
                      refine lv_icmp_ne (tgt := 195) hx hb dX9_narrow_101 (by decide) (fun c101 => ?_) (fun c101 => ?_)
                      ·
                        have d101 : ((n : Nat) : Int) ≠ ((w_7 : Nat) : Int) := my_ne c101 (nI_toInt (by omega)) (nI_toInt (by omega))
                        refine lv_iinc (v := nI (k + 1)) (lv' := [(6, .int (nI (k + 1))), (8, .int (nI n)), (7, .int (nI j)), (5, .int y5_37), (4, .int y4_37), (3, .int x), (0, .ref m0), (1, .int (nI k_1)), (2, .int (nI w_7))]) hx hb dX9_narrow_195 hl (k := 2) rfl (my_incN k 1 (by decide +kernel)) (by decide) rfl (fun ls hl => ?_)
                        refine lv_goto (tgt := 37) hx hb dX9_narrow_198 (by decide) ?_
                        exact ih37  (k + 1) y5_37 y4_37 x (by omega) (by first | assumption | omega | decide +kernel) (by first | assumption | omega | decide +kernel) (by first | assumption | omega | decide +kernel) (by first | assumption | omega | decide +kernel) (by first | (exfalso; omega) | exact nr_skip hnr (ln_no0 (fun h9 => by have h8 := congrArg Int32.toInt h9; rw [nI_toInt (by omega)] at h8; omega)) | exact nr_skip hnr (ln_no (k := j) (by omega) (by omega)) | (refine nr_less hnr (ln_mk (k := j - 1) (my_eqI (by assumption) (nI_toInt (by omega))) (q := j - k) (by omega) (by omega) (by omega) (by rw [show j - 1 + 1 = j from (by omega)]; omega) (hlast (by omega))) (by omega) (by omega)) | exact nr_more hnr (ln_mk (k := j - 1) (my_eqI (by assumption) (nI_toInt (by omega))) (q := j - k) (by omega) (by omega) (by omega) (by rw [show j - 1 + 1 = j from (by omega)]; omega) (hlast (by omega))) (by omega) (by omega)) _ _ ls hP hD hS (lv_sub hl [0, 3, 4, 5, 6, 7, 8] rfl)
                      ·
                        have d101 : ((n : Nat) : Int) = ((w_7 : Nat) : Int) := my_eq c101 (nI_toInt (by omega)) (nI_toInt (by omega))
                        refine lv_aload_n hx hb dX9_narrow_104 rfl (lv_at hl 6 rfl) ?_
                        refine va_get (ci := 9) (v := .ref a_number) (C := RX9) (T := TX9) (N := 24) hx hb hts hi9 hown hK hP 0 rfl rfl 8 (by decide) fl49 (fun _ h9 => h9) rfl dX9_narrow_105 ?_
                        refine lv_iload hx hb dX9_narrow_108 (lv_at hl 2 rfl) ?_
                        refine va_iald hx hb hK hP 1 0 rfl rfl (vp_in_nI (by omega) (by omega)) dX9_narrow_110 ?_
                        refine my_eqi (y := mn k) (congrArg mn (nI_clamp (by omega))) ?_
                        have hb_22 := hR_mn k
                        refine lv_iload_n hx hb dX9_narrow_111 rfl (lv_at hl 7 rfl) ?_
                        refine lv_icmp_ne (tgt := 195) hx hb dX9_narrow_112 (by decide) (fun c112 => ?_) (fun c112 => ?_)
                        ·
                          have d112 : (mn k).toInt ≠ ((k_1 : Nat) : Int) := my_ne c112 rfl (nI_toInt (by omega))
                          refine lv_iinc (v := nI (k + 1)) (lv' := [(6, .int (nI (k + 1))), (8, .int (nI n)), (7, .int (nI j)), (5, .int y5_37), (4, .int y4_37), (3, .int x), (0, .ref m0), (1, .int (nI k_1)), (2, .int (nI w_7))]) hx hb dX9_narrow_195 hl (k := 2) rfl (my_incN k 1 (by decide +kernel)) (by decide) rfl (fun ls hl => ?_)
                          refine lv_goto (tgt := 37) hx hb dX9_narrow_198 (by decide) ?_
                          exact ih37  (k + 1) y5_37 y4_37 x (by omega) (by first | assumption | omega | decide +kernel) (by first | assumption | omega | decide +kernel) (by first | assumption | omega | decide +kernel) (by first | assumption | omega | decide +kernel) (by first | (exfalso; omega) | exact nr_skip hnr (ln_no0 (fun h9 => by have h8 := congrArg Int32.toInt h9; rw [nI_toInt (by omega)] at h8; omega)) | exact nr_skip hnr (ln_no (k := j) (by omega) (by omega)) | (refine nr_less hnr (ln_mk (k := j - 1) (my_eqI (by assumption) (nI_toInt (by omega))) (q := j - k) (by omega) (by omega) (by omega) (by rw [show j - 1 + 1 = j from (by omega)]; omega) (hlast (by omega))) (by omega) (by omega)) | exact nr_more hnr (ln_mk (k := j - 1) (my_eqI (by assumption) (nI_toInt (by omega))) (q := j - k) (by omega) (by omega) (by omega) (by rw [show j - 1 + 1 = j from (by omega)]; omega) (hlast (by omega))) (by omega) (by omega)) _ _ ls hP hD hS (lv_sub hl [0, 3, 4, 5, 6, 7, 8] rfl)
                        ·
                          have d112 : (mn k).toInt = ((k_1 : Nat) : Int) := my_eq c112 rfl (nI_toInt (by omega))
                          refine lv_iload_n hx hb dX9_narrow_115 rfl (lv_at hl 5 rfl) ?_
                          refine lv_if_lt (tgt := 128) hx hb dX9_narrow_116 (by decide) (fun c116 => ?_) (fun c116 => ?_)
                          ·
                            have d116 : x.toInt < (0 : Int) := my_lt c116 rfl (by decide +kernel)
                            refine lv_iconst (v := 1) hx hb dX9_narrow_128 (by decide +kernel) ?_
                            refine lv_goto (tgt := 133) hx hb dX9_narrow_129 (by decide) ?_
                            refine lv_istore (lv' := [(9, .int 1), (8, .int (nI n)), (7, .int (nI j)), (6, .int (nI k)), (5, .int y5_37), (4, .int y4_37), (3, .int x), (0, .ref m0), (1, .int (nI k_1)), (2, .int (nI w_7))]) hx hb dX9_narrow_133 hl (by decide) rfl (fun ls hl => ?_)
                            refine lv_iload hx hb dX9_narrow_135 (lv_at hl 0 rfl) ?_
                            refine lv_if_eq (tgt := 145) hx hb dX9_narrow_137 (by decide) (fun c137 => ?_) (fun c137 => ?_)
                            ·
                              exact absurd c137 (by decide +kernel)
                            ·
                              refine lv_iload hx hb dX9_narrow_140 (lv_at hl 3 rfl) ?_
                              refine lv_goto (tgt := 147) hx hb dX9_narrow_142 (by decide) ?_
                              refine lv_istore (lv' := [(4, .int (nI k)), (9, .int 1), (8, .int (nI n)), (7, .int (nI j)), (6, .int (nI k)), (5, .int y5_37), (3, .int x), (0, .ref m0), (1, .int (nI k_1)), (2, .int (nI w_7))]) hx hb dX9_narrow_147 hl (by decide) rfl (fun ls hl => ?_)
                              refine lv_iload hx hb dX9_narrow_149 (lv_at hl 1 rfl) ?_
                              refine lv_if_eq (tgt := 158) hx hb dX9_narrow_151 (by decide) (fun c151 => ?_) (fun c151 => ?_)
                              ·
                                exact absurd c151 (by decide +kernel)
                              ·
                                refine lv_iconst (v := 1) hx hb dX9_narrow_154 (by decide +kernel) ?_
                                refine lv_goto (tgt := 178) hx hb dX9_narrow_155 (by decide) ?_
                                refine lv_istore (lv' := [(5, .int 1), (4, .int (nI k)), (9, .int 1), (8, .int (nI n)), (7, .int (nI j)), (6, .int (nI k)), (3, .int x), (0, .ref m0), (1, .int (nI k_1)), (2, .int (nI w_7))]) hx hb dX9_narrow_178 hl (by decide) rfl (fun ls hl => ?_)
                                refine lv_iload hx hb dX9_narrow_180 (lv_at hl 2 rfl) ?_
                                refine lv_if_eq (tgt := 193) hx hb dX9_narrow_182 (by decide) (fun c182 => ?_) (fun c182 => ?_)
                                ·
                                  exact absurd c182 (by decide +kernel)
                                ·
                                  refine lv_iload hx hb dX9_narrow_185 (lv_at hl 4 rfl) ?_
                                  refine lv_iload hx hb dX9_narrow_187 (lv_at hl 5 rfl) ?_
                                  refine lv_isub hx hb dX9_narrow_189 ?_
                                  refine lv_topi (fun z_23 ez_23 => ?_)
                                  try have tz_23 : z_23.toInt = ((j : Nat) : Int) - ((k : Nat) : Int) := by rw [ez_23]; exact my_subI (nI_toInt (by omega)) (nI_toInt (by omega)) (by omega) (by omega)
                                  refine lv_goto (tgt := 194) hx hb dX9_narrow_190 (by decide) ?_
                                  refine lv_istore_n (lv' := [(3, .int z_23), (5, .int 1), (4, .int (nI k)), (9, .int 1), (8, .int (nI n)), (7, .int (nI j)), (6, .int (nI k)), (0, .ref m0), (1, .int (nI k_1)), (2, .int (nI w_7))]) hx hb dX9_narrow_194 rfl hl (by decide) rfl (fun ls hl => ?_)
                                  refine lv_iinc (v := nI (k + 1)) (lv' := [(6, .int (nI (k + 1))), (3, .int z_23), (5, .int 1), (4, .int (nI k)), (9, .int 1), (8, .int (nI n)), (7, .int (nI j)), (0, .ref m0), (1, .int (nI k_1)), (2, .int (nI w_7))]) hx hb dX9_narrow_195 hl (k := 6) rfl (my_incN k 1 (by decide +kernel)) (by decide) rfl (fun ls hl => ?_)
                                  refine lv_goto (tgt := 37) hx hb dX9_narrow_198 (by decide) ?_
                                  have ec_24 : (1 : Int32).toInt = 1 := by decide +kernel
                                  have ec_25 : (nI k).toInt = _ := nI_toInt (by omega)
                                  exact ih37  (k + 1) (1 : Int32) (nI k) z_23 (by omega) (by first | assumption | omega | decide +kernel) (by first | assumption | omega | decide +kernel) (by first | assumption | omega | decide +kernel) (by first | assumption | omega | decide +kernel) (by first | (exfalso; omega) | exact nr_skip hnr (ln_no0 (fun h9 => by have h8 := congrArg Int32.toInt h9; rw [nI_toInt (by omega)] at h8; omega)) | exact nr_skip hnr (ln_no (k := j) (by omega) (by omega)) | (refine nr_less hnr (ln_mk (k := j - 1) (my_eqI (by assumption) (nI_toInt (by omega))) (q := j - k) (by omega) (by omega) (by omega) (by rw [show j - 1 + 1 = j from (by omega)]; omega) (hlast (by omega))) (by omega) (by omega)) | exact nr_more hnr (ln_mk (k := j - 1) (my_eqI (by assumption) (nI_toInt (by omega))) (q := j - k) (by omega) (by omega) (by omega) (by rw [show j - 1 + 1 = j from (by omega)]; omega) (hlast (by omega))) (by omega) (by omega)) _ _ ls hP hD hS (lv_sub hl [0, 2, 3, 1, 7, 8, 9] rfl)
                          ·
                            have d116 : x.toInt ≥ (0 : Int) := my_nlt c116 rfl (by decide +kernel)
                            refine lv_iload hx hb dX9_narrow_119 (lv_at hl 1 rfl) ?_
                            refine lv_iload hx hb dX9_narrow_121 (lv_at hl 2 rfl) ?_
                            refine lv_isub hx hb dX9_narrow_123 ?_
                            refine lv_topi (fun z_26 ez_26 => ?_)
                            try have tz_26 : z_26.toInt = ((j : Nat) : Int) - ((k : Nat) : Int) := by rw [ez_26]; exact my_subI (nI_toInt (by omega)) (nI_toInt (by omega)) (by omega) (by omega)
                            refine lv_iload_n hx hb dX9_narrow_124 rfl (lv_at hl 5 rfl) ?_
                            refine lv_icmp_ge (tgt := 132) hx hb dX9_narrow_125 (by decide) (fun c125 => ?_) (fun c125 => ?_)
                            ·
                              have d125 : z_26.toInt ≥ x.toInt := my_ge c125 rfl rfl
                              refine lv_iconst (v := 0) hx hb dX9_narrow_132 (by decide +kernel) ?_
                              refine lv_istore (lv' := [(9, .int 0), (8, .int (nI n)), (7, .int (nI j)), (6, .int (nI k)), (5, .int y5_37), (4, .int y4_37), (3, .int x), (0, .ref m0), (1, .int (nI k_1)), (2, .int (nI w_7))]) hx hb dX9_narrow_133 hl (by decide) rfl (fun ls hl => ?_)
                              refine lv_iload hx hb dX9_narrow_135 (lv_at hl 0 rfl) ?_
                              refine lv_if_eq (tgt := 145) hx hb dX9_narrow_137 (by decide) (fun c137 => ?_) (fun c137 => ?_)
                              ·
                                refine lv_iload hx hb dX9_narrow_145 (lv_at hl 5 rfl) ?_
                                refine lv_istore (lv' := [(4, .int y4_37), (9, .int 0), (8, .int (nI n)), (7, .int (nI j)), (6, .int (nI k)), (5, .int y5_37), (3, .int x), (0, .ref m0), (1, .int (nI k_1)), (2, .int (nI w_7))]) hx hb dX9_narrow_147 hl (by decide) rfl (fun ls hl => ?_)
                                refine lv_iload hx hb dX9_narrow_149 (lv_at hl 1 rfl) ?_
                                refine lv_if_eq (tgt := 158) hx hb dX9_narrow_151 (by decide) (fun c151 => ?_) (fun c151 => ?_)
                                ·
                                  refine lv_iload hx hb dX9_narrow_158 (lv_at hl 5 rfl) ?_
                                  refine lv_iload hx hb dX9_narrow_160 (lv_at hl 3 rfl) ?_
                                  refine lv_iload hx hb dX9_narrow_162 (lv_at hl 4 rfl) ?_
                                  refine lv_isub hx hb dX9_narrow_164 ?_
                                  refine lv_topi (fun z_27 ez_27 => ?_)
                                  try have tz_27 : z_27.toInt = ((j : Nat) : Int) - ((k : Nat) : Int) := by rw [ez_27]; exact my_subI (nI_toInt (by omega)) (nI_toInt (by omega)) (by omega) (by omega)
                                  refine lv_iload_n hx hb dX9_narrow_165 rfl (lv_at hl 6 rfl) ?_
                                  refine lv_icmp_ne (tgt := 173) hx hb dX9_narrow_166 (by decide) (fun c166 => ?_) (fun c166 => ?_)
                                  ·
                                    have d166 : z_27.toInt ≠ x.toInt := my_ne c166 rfl rfl
                                    refine lv_iconst (v := 0) hx hb dX9_narrow_173 (by decide +kernel) ?_
                                    refine my_gpI (my_pS (As := [.int 0]) (rest := [.int y5_37]) ⟨hx, hb, hml, hown, hts⟩ (va_cwS 1 hts gX9_narrow_X9_flag rfl rfl rfl (by decide +kernel) ⟨Nat.le_of_ble_eq_true rfl, Nat.le_of_ble_eq_true rfl⟩) hN hK hP [] rfl rfl hl.1 rfl (Nat.le_of_ble_eq_true rfl) dX9_narrow_174 ⟨Nat.le_of_ble_eq_true rfl, Nat.le_of_ble_eq_true rfl⟩  (k0_X9_flag l D cI cJ cK )) (fun r hp => ?_)
                                    obtain rfl := hp
                                    refine lv_iadd hx hb dX9_narrow_177 ?_
                                    refine lv_topi (fun z_28 ez_28 => ?_)
                                    try have tz_28 : z_28.toInt = y5_37.toInt + (0 : Int) := by rw [ez_28]; exact my_addI rfl (by decide +kernel) (by omega) (by omega)
                                    refine lv_istore (lv' := [(5, .int z_28), (4, .int y4_37), (9, .int 0), (8, .int (nI n)), (7, .int (nI j)), (6, .int (nI k)), (3, .int x), (0, .ref m0), (1, .int (nI k_1)), (2, .int (nI w_7))]) hx hb dX9_narrow_178 hl (by decide) rfl (fun ls hl => ?_)
                                    refine lv_iload hx hb dX9_narrow_180 (lv_at hl 2 rfl) ?_
                                    refine lv_if_eq (tgt := 193) hx hb dX9_narrow_182 (by decide) (fun c182 => ?_) (fun c182 => ?_)
                                    ·
                                      refine lv_iload_n hx hb dX9_narrow_193 rfl (lv_at hl 6 rfl) ?_
                                      refine lv_istore_n (lv' := [(3, .int x), (5, .int z_28), (4, .int y4_37), (9, .int 0), (8, .int (nI n)), (7, .int (nI j)), (6, .int (nI k)), (0, .ref m0), (1, .int (nI k_1)), (2, .int (nI w_7))]) hx hb dX9_narrow_194 rfl hl (by decide) rfl (fun ls hl => ?_)
                                      refine lv_iinc (v := nI (k + 1)) (lv' := [(6, .int (nI (k + 1))), (3, .int x), (5, .int z_28), (4, .int y4_37), (9, .int 0), (8, .int (nI n)), (7, .int (nI j)), (0, .ref m0), (1, .int (nI k_1)), (2, .int (nI w_7))]) hx hb dX9_narrow_195 hl (k := 6) rfl (my_incN k 1 (by decide +kernel)) (by decide) rfl (fun ls hl => ?_)
                                      refine lv_goto (tgt := 37) hx hb dX9_narrow_198 (by decide) ?_
                                      exact ih37  (k + 1) z_28 y4_37 x (by omega) (by first | assumption | omega | decide +kernel) (by first | assumption | omega | decide +kernel) (by first | assumption | omega | decide +kernel) (by first | assumption | omega | decide +kernel) (by first | (exfalso; omega) | exact nr_skip hnr (ln_no0 (fun h9 => by have h8 := congrArg Int32.toInt h9; rw [nI_toInt (by omega)] at h8; omega)) | exact nr_skip hnr (ln_no (k := j) (by omega) (by omega)) | (refine nr_less hnr (ln_mk (k := j - 1) (my_eqI (by assumption) (nI_toInt (by omega))) (q := j - k) (by omega) (by omega) (by omega) (by rw [show j - 1 + 1 = j from (by omega)]; omega) (hlast (by omega))) (by omega) (by omega)) | exact nr_more hnr (ln_mk (k := j - 1) (my_eqI (by assumption) (nI_toInt (by omega))) (q := j - k) (by omega) (by omega) (by omega) (by rw [show j - 1 + 1 = j from (by omega)]; omega) (hlast (by omega))) (by omega) (by omega)) _ _ ls hP hD hS (lv_sub hl [0, 2, 3, 1, 7, 8, 9] rfl)
                                    ·
                                      exact absurd c182 (by decide +kernel)
                                  ·
                                    have d166 : z_27.toInt = x.toInt := my_eq c166 rfl rfl
                                    refine lv_iconst (v := 1) hx hb dX9_narrow_169 (by decide +kernel) ?_
                                    refine lv_goto (tgt := 174) hx hb dX9_narrow_170 (by decide) ?_
                                    refine my_gpI (my_pS (As := [.int 1]) (rest := [.int y5_37]) ⟨hx, hb, hml, hown, hts⟩ (va_cwS 1 hts gX9_narrow_X9_flag rfl rfl rfl (by decide +kernel) ⟨Nat.le_of_ble_eq_true rfl, Nat.le_of_ble_eq_true rfl⟩) hN hK hP [] rfl rfl hl.1 rfl (Nat.le_of_ble_eq_true rfl) dX9_narrow_174 ⟨Nat.le_of_ble_eq_true rfl, Nat.le_of_ble_eq_true rfl⟩  (k1_X9_flag l D cI cJ cK )) (fun r hp => ?_)
                                    obtain rfl := hp
                                    refine lv_iadd hx hb dX9_narrow_177 ?_
                                    refine lv_topi (fun z_29 ez_29 => ?_)
                                    try have tz_29 : z_29.toInt = y5_37.toInt + (1 : Int) := by rw [ez_29]; exact my_addI rfl (by decide +kernel) (by omega) (by omega)
                                    refine lv_istore (lv' := [(5, .int z_29), (4, .int y4_37), (9, .int 0), (8, .int (nI n)), (7, .int (nI j)), (6, .int (nI k)), (3, .int x), (0, .ref m0), (1, .int (nI k_1)), (2, .int (nI w_7))]) hx hb dX9_narrow_178 hl (by decide) rfl (fun ls hl => ?_)
                                    refine lv_iload hx hb dX9_narrow_180 (lv_at hl 2 rfl) ?_
                                    refine lv_if_eq (tgt := 193) hx hb dX9_narrow_182 (by decide) (fun c182 => ?_) (fun c182 => ?_)
                                    ·
                                      refine lv_iload_n hx hb dX9_narrow_193 rfl (lv_at hl 6 rfl) ?_
                                      refine lv_istore_n (lv' := [(3, .int x), (5, .int z_29), (4, .int y4_37), (9, .int 0), (8, .int (nI n)), (7, .int (nI j)), (6, .int (nI k)), (0, .ref m0), (1, .int (nI k_1)), (2, .int (nI w_7))]) hx hb dX9_narrow_194 rfl hl (by decide) rfl (fun ls hl => ?_)
                                      refine lv_iinc (v := nI (k + 1)) (lv' := [(6, .int (nI (k + 1))), (3, .int x), (5, .int z_29), (4, .int y4_37), (9, .int 0), (8, .int (nI n)), (7, .int (nI j)), (0, .ref m0), (1, .int (nI k_1)), (2, .int (nI w_7))]) hx hb dX9_narrow_195 hl (k := 6) rfl (my_incN k 1 (by decide +kernel)) (by decide) rfl (fun ls hl => ?_)
                                      refine lv_goto (tgt := 37) hx hb dX9_narrow_198 (by decide) ?_
                                      exact ih37  (k + 1) z_29 y4_37 x (by omega) (by first | assumption | omega | decide +kernel) (by first | assumption | omega | decide +kernel) (by first | assumption | omega | decide +kernel) (by first | assumption | omega | decide +kernel) (by first | (exfalso; omega) | exact nr_skip hnr (ln_no0 (fun h9 => by have h8 := congrArg Int32.toInt h9; rw [nI_toInt (by omega)] at h8; omega)) | exact nr_skip hnr (ln_no (k := j) (by omega) (by omega)) | (refine nr_less hnr (ln_mk (k := j - 1) (my_eqI (by assumption) (nI_toInt (by omega))) (q := j - k) (by omega) (by omega) (by omega) (by rw [show j - 1 + 1 = j from (by omega)]; omega) (hlast (by omega))) (by omega) (by omega)) | exact nr_more hnr (ln_mk (k := j - 1) (my_eqI (by assumption) (nI_toInt (by omega))) (q := j - k) (by omega) (by omega) (by omega) (by rw [show j - 1 + 1 = j from (by omega)]; omega) (hlast (by omega))) (by omega) (by omega)) _ _ ls hP hD hS (lv_sub hl [0, 2, 3, 1, 7, 8, 9] rfl)
                                    ·
                                      exact absurd c182 (by decide +kernel)
                                ·
                                  exact absurd c151 (by decide +kernel)
                              ·
                                exact absurd c137 (by decide +kernel)
                            ·
                              have d125 : z_26.toInt < x.toInt := my_nge c125 rfl rfl
                              refine lv_iconst (v := 1) hx hb dX9_narrow_128 (by decide +kernel) ?_
                              refine lv_goto (tgt := 133) hx hb dX9_narrow_129 (by decide) ?_
                              refine lv_istore (lv' := [(9, .int 1), (8, .int (nI n)), (7, .int (nI j)), (6, .int (nI k)), (5, .int y5_37), (4, .int y4_37), (3, .int x), (0, .ref m0), (1, .int (nI k_1)), (2, .int (nI w_7))]) hx hb dX9_narrow_133 hl (by decide) rfl (fun ls hl => ?_)
                              refine lv_iload hx hb dX9_narrow_135 (lv_at hl 0 rfl) ?_
                              refine lv_if_eq (tgt := 145) hx hb dX9_narrow_137 (by decide) (fun c137 => ?_) (fun c137 => ?_)
                              ·
                                exact absurd c137 (by decide +kernel)
                              ·
                                refine lv_iload hx hb dX9_narrow_140 (lv_at hl 3 rfl) ?_
                                refine lv_goto (tgt := 147) hx hb dX9_narrow_142 (by decide) ?_
                                refine lv_istore (lv' := [(4, .int (nI k)), (9, .int 1), (8, .int (nI n)), (7, .int (nI j)), (6, .int (nI k)), (5, .int y5_37), (3, .int x), (0, .ref m0), (1, .int (nI k_1)), (2, .int (nI w_7))]) hx hb dX9_narrow_147 hl (by decide) rfl (fun ls hl => ?_)
                                refine lv_iload hx hb dX9_narrow_149 (lv_at hl 1 rfl) ?_
                                refine lv_if_eq (tgt := 158) hx hb dX9_narrow_151 (by decide) (fun c151 => ?_) (fun c151 => ?_)
                                ·
                                  exact absurd c151 (by decide +kernel)
                                ·
                                  refine lv_iconst (v := 1) hx hb dX9_narrow_154 (by decide +kernel) ?_
                                  refine lv_goto (tgt := 178) hx hb dX9_narrow_155 (by decide) ?_
                                  refine lv_istore (lv' := [(5, .int 1), (4, .int (nI k)), (9, .int 1), (8, .int (nI n)), (7, .int (nI j)), (6, .int (nI k)), (3, .int x), (0, .ref m0), (1, .int (nI k_1)), (2, .int (nI w_7))]) hx hb dX9_narrow_178 hl (by decide) rfl (fun ls hl => ?_)
                                  refine lv_iload hx hb dX9_narrow_180 (lv_at hl 2 rfl) ?_
                                  refine lv_if_eq (tgt := 193) hx hb dX9_narrow_182 (by decide) (fun c182 => ?_) (fun c182 => ?_)
                                  ·
                                    exact absurd c182 (by decide +kernel)
                                  ·
                                    refine lv_iload hx hb dX9_narrow_185 (lv_at hl 4 rfl) ?_
                                    refine lv_iload hx hb dX9_narrow_187 (lv_at hl 5 rfl) ?_
                                    refine lv_isub hx hb dX9_narrow_189 ?_
                                    refine lv_topi (fun z_30 ez_30 => ?_)
                                    try have tz_30 : z_30.toInt = ((j : Nat) : Int) - ((k : Nat) : Int) := by rw [ez_30]; exact my_subI (nI_toInt (by omega)) (nI_toInt (by omega)) (by omega) (by omega)
                                    refine lv_goto (tgt := 194) hx hb dX9_narrow_190 (by decide) ?_
                                    refine lv_istore_n (lv' := [(3, .int z_30), (5, .int 1), (4, .int (nI k)), (9, .int 1), (8, .int (nI n)), (7, .int (nI j)), (6, .int (nI k)), (0, .ref m0), (1, .int (nI k_1)), (2, .int (nI w_7))]) hx hb dX9_narrow_194 rfl hl (by decide) rfl (fun ls hl => ?_)
                                    refine lv_iinc (v := nI (k + 1)) (lv' := [(6, .int (nI (k + 1))), (3, .int z_30), (5, .int 1), (4, .int (nI k)), (9, .int 1), (8, .int (nI n)), (7, .int (nI j)), (0, .ref m0), (1, .int (nI k_1)), (2, .int (nI w_7))]) hx hb dX9_narrow_195 hl (k := 6) rfl (my_incN k 1 (by decide +kernel)) (by decide) rfl (fun ls hl => ?_)
                                    refine lv_goto (tgt := 37) hx hb dX9_narrow_198 (by decide) ?_
                                    have ec_31 : (1 : Int32).toInt = 1 := by decide +kernel
                                    have ec_32 : (nI k).toInt = _ := nI_toInt (by omega)
                                    exact ih37  (k + 1) (1 : Int32) (nI k) z_30 (by omega) (by first | assumption | omega | decide +kernel) (by first | assumption | omega | decide +kernel) (by first | assumption | omega | decide +kernel) (by first | assumption | omega | decide +kernel) (by first | (exfalso; omega) | exact nr_skip hnr (ln_no0 (fun h9 => by have h8 := congrArg Int32.toInt h9; rw [nI_toInt (by omega)] at h8; omega)) | exact nr_skip hnr (ln_no (k := j) (by omega) (by omega)) | (refine nr_less hnr (ln_mk (k := j - 1) (my_eqI (by assumption) (nI_toInt (by omega))) (q := j - k) (by omega) (by omega) (by omega) (by rw [show j - 1 + 1 = j from (by omega)]; omega) (hlast (by omega))) (by omega) (by omega)) | exact nr_more hnr (ln_mk (k := j - 1) (my_eqI (by assumption) (nI_toInt (by omega))) (q := j - k) (by omega) (by omega) (by omega) (by rw [show j - 1 + 1 = j from (by omega)]; omega) (hlast (by omega))) (by omega) (by omega)) _ _ ls hP hD hS (lv_sub hl [0, 2, 3, 1, 7, 8, 9] rfl)
                    ·
                      have d59 : ((j : Nat) : Int) < ((m_many : Nat) : Int) := my_nge c59 (nI_toInt (by omega)) (nI_toInt (by omega))
                      refine lv_iload hx hb dX9_narrow_62 (lv_at hl 0 rfl) ?_
                      refine lv_iload_n hx hb dX9_narrow_64 rfl (lv_at hl 8 rfl) ?_
                      refine lv_icmp_ge (tgt := 98) hx hb dX9_narrow_65 (by decide) (fun c65 => ?_) (fun c65 => ?_)
                      ·
                        have d65 : ((n : Nat) : Int) ≥ ((w_7 : Nat) : Int) := my_ge c65 (nI_toInt (by omega)) (nI_toInt (by omega))
                        refine lv_iload hx hb dX9_narrow_98 (lv_at hl 0 rfl) ?_
                        refine lv_iload_n hx hb dX9_narrow_100 rfl (lv_at hl 8 rfl) ?_
                        refine lv_icmp_ne (tgt := 195) hx hb dX9_narrow_101 (by decide) (fun c101 => ?_) (fun c101 => ?_)
                        ·
                          have d101 : ((n : Nat) : Int) ≠ ((w_7 : Nat) : Int) := my_ne c101 (nI_toInt (by omega)) (nI_toInt (by omega))
                          refine lv_iinc (v := nI (k + 1)) (lv' := [(6, .int (nI (k + 1))), (8, .int (nI n)), (7, .int (nI j)), (5, .int y5_37), (4, .int y4_37), (3, .int x), (0, .ref m0), (1, .int (nI k_1)), (2, .int (nI w_7))]) hx hb dX9_narrow_195 hl (k := 2) rfl (my_incN k 1 (by decide +kernel)) (by decide) rfl (fun ls hl => ?_)
                          refine lv_goto (tgt := 37) hx hb dX9_narrow_198 (by decide) ?_
                          exact ih37  (k + 1) y5_37 y4_37 x (by omega) (by first | assumption | omega | decide +kernel) (by first | assumption | omega | decide +kernel) (by first | assumption | omega | decide +kernel) (by first | assumption | omega | decide +kernel) (by first | (exfalso; omega) | exact nr_skip hnr (ln_no0 (fun h9 => by have h8 := congrArg Int32.toInt h9; rw [nI_toInt (by omega)] at h8; omega)) | exact nr_skip hnr (ln_no (k := j) (by omega) (by omega)) | (refine nr_less hnr (ln_mk (k := j - 1) (my_eqI (by assumption) (nI_toInt (by omega))) (q := j - k) (by omega) (by omega) (by omega) (by rw [show j - 1 + 1 = j from (by omega)]; omega) (hlast (by omega))) (by omega) (by omega)) | exact nr_more hnr (ln_mk (k := j - 1) (my_eqI (by assumption) (nI_toInt (by omega))) (q := j - k) (by omega) (by omega) (by omega) (by rw [show j - 1 + 1 = j from (by omega)]; omega) (hlast (by omega))) (by omega) (by omega)) _ _ ls hP hD hS (lv_sub hl [0, 3, 4, 5, 6, 7, 8] rfl)
                        ·
                          have d101 : ((n : Nat) : Int) = ((w_7 : Nat) : Int) := my_eq c101 (nI_toInt (by omega)) (nI_toInt (by omega))
                          refine lv_aload_n hx hb dX9_narrow_104 rfl (lv_at hl 6 rfl) ?_
                          refine va_get (ci := 9) (v := .ref a_number) (C := RX9) (T := TX9) (N := 24) hx hb hts hi9 hown hK hP 0 rfl rfl 8 (by decide) fl49 (fun _ h9 => h9) rfl dX9_narrow_105 ?_
                          refine lv_iload hx hb dX9_narrow_108 (lv_at hl 2 rfl) ?_
                          refine va_iald hx hb hK hP 1 0 rfl rfl (vp_in_nI (by omega) (by omega)) dX9_narrow_110 ?_
                          refine my_eqi (y := mn k) (congrArg mn (nI_clamp (by omega))) ?_
                          have hb_33 := hR_mn k
                          refine lv_iload_n hx hb dX9_narrow_111 rfl (lv_at hl 7 rfl) ?_
                          refine lv_icmp_ne (tgt := 195) hx hb dX9_narrow_112 (by decide) (fun c112 => ?_) (fun c112 => ?_)
                          ·
                            have d112 : (mn k).toInt ≠ ((k_1 : Nat) : Int) := my_ne c112 rfl (nI_toInt (by omega))
                            refine lv_iinc (v := nI (k + 1)) (lv' := [(6, .int (nI (k + 1))), (8, .int (nI n)), (7, .int (nI j)), (5, .int y5_37), (4, .int y4_37), (3, .int x), (0, .ref m0), (1, .int (nI k_1)), (2, .int (nI w_7))]) hx hb dX9_narrow_195 hl (k := 2) rfl (my_incN k 1 (by decide +kernel)) (by decide) rfl (fun ls hl => ?_)
                            refine lv_goto (tgt := 37) hx hb dX9_narrow_198 (by decide) ?_
                            exact ih37  (k + 1) y5_37 y4_37 x (by omega) (by first | assumption | omega | decide +kernel) (by first | assumption | omega | decide +kernel) (by first | assumption | omega | decide +kernel) (by first | assumption | omega | decide +kernel) (by first | (exfalso; omega) | exact nr_skip hnr (ln_no0 (fun h9 => by have h8 := congrArg Int32.toInt h9; rw [nI_toInt (by omega)] at h8; omega)) | exact nr_skip hnr (ln_no (k := j) (by omega) (by omega)) | (refine nr_less hnr (ln_mk (k := j - 1) (my_eqI (by assumption) (nI_toInt (by omega))) (q := j - k) (by omega) (by omega) (by omega) (by rw [show j - 1 + 1 = j from (by omega)]; omega) (hlast (by omega))) (by omega) (by omega)) | exact nr_more hnr (ln_mk (k := j - 1) (my_eqI (by assumption) (nI_toInt (by omega))) (q := j - k) (by omega) (by omega) (by omega) (by rw [show j - 1 + 1 = j from (by omega)]; omega) (hlast (by omega))) (by omega) (by omega)) _ _ ls hP hD hS (lv_sub hl [0, 3, 4, 5, 6, 7, 8] rfl)
                          ·
                            have d112 : (mn k).toInt = ((k_1 : Nat) : Int) := my_eq c112 rfl (nI_toInt (by omega))
                            refine lv_iload_n hx hb dX9_narrow_115 rfl (lv_at hl 5 rfl) ?_
                            refine lv_if_lt (tgt := 128) hx hb dX9_narrow_116 (by decide) (fun c116 => ?_) (fun c116 => ?_)
                            ·
                              have d116 : x.toInt < (0 : Int) := my_lt c116 rfl (by decide +kernel)
                              refine lv_iconst (v := 1) hx hb dX9_narrow_128 (by decide +kernel) ?_
                              refine lv_goto (tgt := 133) hx hb dX9_narrow_129 (by decide) ?_
                              refine lv_istore (lv' := [(9, .int 1), (8, .int (nI n)), (7, .int (nI j)), (6, .int (nI k)), (5, .int y5_37), (4, .int y4_37), (3, .int x), (0, .ref m0), (1, .int (nI k_1)), (2, .int (nI w_7))]) hx hb dX9_narrow_133 hl (by decide) rfl (fun ls hl => ?_)
                              refine lv_iload hx hb dX9_narrow_135 (lv_at hl 0 rfl) ?_
                              refine lv_if_eq (tgt := 145) hx hb dX9_narrow_137 (by decide) (fun c137 => ?_) (fun c137 => ?_)
                              ·
                                exact absurd c137 (by decide +kernel)
                              ·
                                refine lv_iload hx hb dX9_narrow_140 (lv_at hl 3 rfl) ?_
                                refine lv_goto (tgt := 147) hx hb dX9_narrow_142 (by decide) ?_
                                refine lv_istore (lv' := [(4, .int (nI k)), (9, .int 1), (8, .int (nI n)), (7, .int (nI j)), (6, .int (nI k)), (5, .int y5_37), (3, .int x), (0, .ref m0), (1, .int (nI k_1)), (2, .int (nI w_7))]) hx hb dX9_narrow_147 hl (by decide) rfl (fun ls hl => ?_)
                                refine lv_iload hx hb dX9_narrow_149 (lv_at hl 1 rfl) ?_
                                refine lv_if_eq (tgt := 158) hx hb dX9_narrow_151 (by decide) (fun c151 => ?_) (fun c151 => ?_)
                                ·
                                  exact absurd c151 (by decide +kernel)
                                ·
                                  refine lv_iconst (v := 1) hx hb dX9_narrow_154 (by decide +kernel) ?_
                                  refine lv_goto (tgt := 178) hx hb dX9_narrow_155 (by decide) ?_
                                  refine lv_istore (lv' := [(5, .int 1), (4, .int (nI k)), (9, .int 1), (8, .int (nI n)), (7, .int (nI j)), (6, .int (nI k)), (3, .int x), (0, .ref m0), (1, .int (nI k_1)), (2, .int (nI w_7))]) hx hb dX9_narrow_178 hl (by decide) rfl (fun ls hl => ?_)
                                  refine lv_iload hx hb dX9_narrow_180 (lv_at hl 2 rfl) ?_
                                  refine lv_if_eq (tgt := 193) hx hb dX9_narrow_182 (by decide) (fun c182 => ?_) (fun c182 => ?_)
                                  ·
                                    exact absurd c182 (by decide +kernel)
                                  ·
                                    refine lv_iload hx hb dX9_narrow_185 (lv_at hl 4 rfl) ?_
                                    refine lv_iload hx hb dX9_narrow_187 (lv_at hl 5 rfl) ?_
                                    refine lv_isub hx hb dX9_narrow_189 ?_
                                    refine lv_topi (fun z_34 ez_34 => ?_)
                                    try have tz_34 : z_34.toInt = ((j : Nat) : Int) - ((k : Nat) : Int) := by rw [ez_34]; exact my_subI (nI_toInt (by omega)) (nI_toInt (by omega)) (by omega) (by omega)
                                    refine lv_goto (tgt := 194) hx hb dX9_narrow_190 (by decide) ?_
                                    refine lv_istore_n (lv' := [(3, .int z_34), (5, .int 1), (4, .int (nI k)), (9, .int 1), (8, .int (nI n)), (7, .int (nI j)), (6, .int (nI k)), (0, .ref m0), (1, .int (nI k_1)), (2, .int (nI w_7))]) hx hb dX9_narrow_194 rfl hl (by decide) rfl (fun ls hl => ?_)
                                    refine lv_iinc (v := nI (k + 1)) (lv' := [(6, .int (nI (k + 1))), (3, .int z_34), (5, .int 1), (4, .int (nI k)), (9, .int 1), (8, .int (nI n)), (7, .int (nI j)), (0, .ref m0), (1, .int (nI k_1)), (2, .int (nI w_7))]) hx hb dX9_narrow_195 hl (k := 6) rfl (my_incN k 1 (by decide +kernel)) (by decide) rfl (fun ls hl => ?_)
                                    refine lv_goto (tgt := 37) hx hb dX9_narrow_198 (by decide) ?_
                                    have ec_35 : (1 : Int32).toInt = 1 := by decide +kernel
                                    have ec_36 : (nI k).toInt = _ := nI_toInt (by omega)
                                    exact ih37  (k + 1) (1 : Int32) (nI k) z_34 (by omega) (by first | assumption | omega | decide +kernel) (by first | assumption | omega | decide +kernel) (by first | assumption | omega | decide +kernel) (by first | assumption | omega | decide +kernel) (by first | (exfalso; omega) | exact nr_skip hnr (ln_no0 (fun h9 => by have h8 := congrArg Int32.toInt h9; rw [nI_toInt (by omega)] at h8; omega)) | exact nr_skip hnr (ln_no (k := j) (by omega) (by omega)) | (refine nr_less hnr (ln_mk (k := j - 1) (my_eqI (by assumption) (nI_toInt (by omega))) (q := j - k) (by omega) (by omega) (by omega) (by rw [show j - 1 + 1 = j from (by omega)]; omega) (hlast (by omega))) (by omega) (by omega)) | exact nr_more hnr (ln_mk (k := j - 1) (my_eqI (by assumption) (nI_toInt (by omega))) (q := j - k) (by omega) (by omega) (by omega) (by rw [show j - 1 + 1 = j from (by omega)]; omega) (hlast (by omega))) (by omega) (by omega)) _ _ ls hP hD hS (lv_sub hl [0, 2, 3, 1, 7, 8, 9] rfl)
                            ·
                              have d116 : x.toInt ≥ (0 : Int) := my_nlt c116 rfl (by decide +kernel)
                              refine lv_iload hx hb dX9_narrow_119 (lv_at hl 1 rfl) ?_
                              refine lv_iload hx hb dX9_narrow_121 (lv_at hl 2 rfl) ?_
                              refine lv_isub hx hb dX9_narrow_123 ?_
                              refine lv_topi (fun z_37 ez_37 => ?_)
                              try have tz_37 : z_37.toInt = ((j : Nat) : Int) - ((k : Nat) : Int) := by rw [ez_37]; exact my_subI (nI_toInt (by omega)) (nI_toInt (by omega)) (by omega) (by omega)
                              refine lv_iload_n hx hb dX9_narrow_124 rfl (lv_at hl 5 rfl) ?_
                              refine lv_icmp_ge (tgt := 132) hx hb dX9_narrow_125 (by decide) (fun c125 => ?_) (fun c125 => ?_)
                              ·
                                have d125 : z_37.toInt ≥ x.toInt := my_ge c125 rfl rfl
                                refine lv_iconst (v := 0) hx hb dX9_narrow_132 (by decide +kernel) ?_
                                refine lv_istore (lv' := [(9, .int 0), (8, .int (nI n)), (7, .int (nI j)), (6, .int (nI k)), (5, .int y5_37), (4, .int y4_37), (3, .int x), (0, .ref m0), (1, .int (nI k_1)), (2, .int (nI w_7))]) hx hb dX9_narrow_133 hl (by decide) rfl (fun ls hl => ?_)
                                refine lv_iload hx hb dX9_narrow_135 (lv_at hl 0 rfl) ?_
                                refine lv_if_eq (tgt := 145) hx hb dX9_narrow_137 (by decide) (fun c137 => ?_) (fun c137 => ?_)
                                ·
                                  refine lv_iload hx hb dX9_narrow_145 (lv_at hl 5 rfl) ?_
                                  refine lv_istore (lv' := [(4, .int y4_37), (9, .int 0), (8, .int (nI n)), (7, .int (nI j)), (6, .int (nI k)), (5, .int y5_37), (3, .int x), (0, .ref m0), (1, .int (nI k_1)), (2, .int (nI w_7))]) hx hb dX9_narrow_147 hl (by decide) rfl (fun ls hl => ?_)
                                  refine lv_iload hx hb dX9_narrow_149 (lv_at hl 1 rfl) ?_
                                  refine lv_if_eq (tgt := 158) hx hb dX9_narrow_151 (by decide) (fun c151 => ?_) (fun c151 => ?_)
                                  ·
                                    refine lv_iload hx hb dX9_narrow_158 (lv_at hl 5 rfl) ?_
                                    refine lv_iload hx hb dX9_narrow_160 (lv_at hl 3 rfl) ?_
                                    refine lv_iload hx hb dX9_narrow_162 (lv_at hl 4 rfl) ?_
                                    refine lv_isub hx hb dX9_narrow_164 ?_
                                    refine lv_topi (fun z_38 ez_38 => ?_)
                                    try have tz_38 : z_38.toInt = ((j : Nat) : Int) - ((k : Nat) : Int) := by rw [ez_38]; exact my_subI (nI_toInt (by omega)) (nI_toInt (by omega)) (by omega) (by omega)
                                    refine lv_iload_n hx hb dX9_narrow_165 rfl (lv_at hl 6 rfl) ?_
                                    refine lv_icmp_ne (tgt := 173) hx hb dX9_narrow_166 (by decide) (fun c166 => ?_) (fun c166 => ?_)
                                    ·
                                      have d166 : z_38.toInt ≠ x.toInt := my_ne c166 rfl rfl
                                      refine lv_iconst (v := 0) hx hb dX9_narrow_173 (by decide +kernel) ?_
                                      refine my_gpI (my_pS (As := [.int 0]) (rest := [.int y5_37]) ⟨hx, hb, hml, hown, hts⟩ (va_cwS 1 hts gX9_narrow_X9_flag rfl rfl rfl (by decide +kernel) ⟨Nat.le_of_ble_eq_true rfl, Nat.le_of_ble_eq_true rfl⟩) hN hK hP [] rfl rfl hl.1 rfl (Nat.le_of_ble_eq_true rfl) dX9_narrow_174 ⟨Nat.le_of_ble_eq_true rfl, Nat.le_of_ble_eq_true rfl⟩  (k0_X9_flag l D cI cJ cK )) (fun r hp => ?_)
                                      obtain rfl := hp
                                      refine lv_iadd hx hb dX9_narrow_177 ?_
                                      refine lv_topi (fun z_39 ez_39 => ?_)
                                      try have tz_39 : z_39.toInt = y5_37.toInt + (0 : Int) := by rw [ez_39]; exact my_addI rfl (by decide +kernel) (by omega) (by omega)
                                      refine lv_istore (lv' := [(5, .int z_39), (4, .int y4_37), (9, .int 0), (8, .int (nI n)), (7, .int (nI j)), (6, .int (nI k)), (3, .int x), (0, .ref m0), (1, .int (nI k_1)), (2, .int (nI w_7))]) hx hb dX9_narrow_178 hl (by decide) rfl (fun ls hl => ?_)
                                      refine lv_iload hx hb dX9_narrow_180 (lv_at hl 2 rfl) ?_
                                      refine lv_if_eq (tgt := 193) hx hb dX9_narrow_182 (by decide) (fun c182 => ?_) (fun c182 => ?_)
                                      ·
                                        refine lv_iload_n hx hb dX9_narrow_193 rfl (lv_at hl 6 rfl) ?_
                                        refine lv_istore_n (lv' := [(3, .int x), (5, .int z_39), (4, .int y4_37), (9, .int 0), (8, .int (nI n)), (7, .int (nI j)), (6, .int (nI k)), (0, .ref m0), (1, .int (nI k_1)), (2, .int (nI w_7))]) hx hb dX9_narrow_194 rfl hl (by decide) rfl (fun ls hl => ?_)
                                        refine lv_iinc (v := nI (k + 1)) (lv' := [(6, .int (nI (k + 1))), (3, .int x), (5, .int z_39), (4, .int y4_37), (9, .int 0), (8, .int (nI n)), (7, .int (nI j)), (0, .ref m0), (1, .int (nI k_1)), (2, .int (nI w_7))]) hx hb dX9_narrow_195 hl (k := 6) rfl (my_incN k 1 (by decide +kernel)) (by decide) rfl (fun ls hl => ?_)
                                        refine lv_goto (tgt := 37) hx hb dX9_narrow_198 (by decide) ?_
                                        exact ih37  (k + 1) z_39 y4_37 x (by omega) (by first | assumption | omega | decide +kernel) (by first | assumption | omega | decide +kernel) (by first | assumption | omega | decide +kernel) (by first | assumption | omega | decide +kernel) (by first | (exfalso; omega) | exact nr_skip hnr (ln_no0 (fun h9 => by have h8 := congrArg Int32.toInt h9; rw [nI_toInt (by omega)] at h8; omega)) | exact nr_skip hnr (ln_no (k := j) (by omega) (by omega)) | (refine nr_less hnr (ln_mk (k := j - 1) (my_eqI (by assumption) (nI_toInt (by omega))) (q := j - k) (by omega) (by omega) (by omega) (by rw [show j - 1 + 1 = j from (by omega)]; omega) (hlast (by omega))) (by omega) (by omega)) | exact nr_more hnr (ln_mk (k := j - 1) (my_eqI (by assumption) (nI_toInt (by omega))) (q := j - k) (by omega) (by omega) (by omega) (by rw [show j - 1 + 1 = j from (by omega)]; omega) (hlast (by omega))) (by omega) (by omega)) _ _ ls hP hD hS (lv_sub hl [0, 2, 3, 1, 7, 8, 9] rfl)
                                      ·
                                        exact absurd c182 (by decide +kernel)
                                    ·
                                      have d166 : z_38.toInt = x.toInt := my_eq c166 rfl rfl
                                      refine lv_iconst (v := 1) hx hb dX9_narrow_169 (by decide +kernel) ?_
                                      refine lv_goto (tgt := 174) hx hb dX9_narrow_170 (by decide) ?_
                                      refine my_gpI (my_pS (As := [.int 1]) (rest := [.int y5_37]) ⟨hx, hb, hml, hown, hts⟩ (va_cwS 1 hts gX9_narrow_X9_flag rfl rfl rfl (by decide +kernel) ⟨Nat.le_of_ble_eq_true rfl, Nat.le_of_ble_eq_true rfl⟩) hN hK hP [] rfl rfl hl.1 rfl (Nat.le_of_ble_eq_true rfl) dX9_narrow_174 ⟨Nat.le_of_ble_eq_true rfl, Nat.le_of_ble_eq_true rfl⟩  (k1_X9_flag l D cI cJ cK )) (fun r hp => ?_)
                                      obtain rfl := hp
                                      refine lv_iadd hx hb dX9_narrow_177 ?_
                                      refine lv_topi (fun z_40 ez_40 => ?_)
                                      try have tz_40 : z_40.toInt = y5_37.toInt + (1 : Int) := by rw [ez_40]; exact my_addI rfl (by decide +kernel) (by omega) (by omega)
                                      refine lv_istore (lv' := [(5, .int z_40), (4, .int y4_37), (9, .int 0), (8, .int (nI n)), (7, .int (nI j)), (6, .int (nI k)), (3, .int x), (0, .ref m0), (1, .int (nI k_1)), (2, .int (nI w_7))]) hx hb dX9_narrow_178 hl (by decide) rfl (fun ls hl => ?_)
                                      refine lv_iload hx hb dX9_narrow_180 (lv_at hl 2 rfl) ?_
                                      refine lv_if_eq (tgt := 193) hx hb dX9_narrow_182 (by decide) (fun c182 => ?_) (fun c182 => ?_)
                                      ·
                                        refine lv_iload_n hx hb dX9_narrow_193 rfl (lv_at hl 6 rfl) ?_
                                        refine lv_istore_n (lv' := [(3, .int x), (5, .int z_40), (4, .int y4_37), (9, .int 0), (8, .int (nI n)), (7, .int (nI j)), (6, .int (nI k)), (0, .ref m0), (1, .int (nI k_1)), (2, .int (nI w_7))]) hx hb dX9_narrow_194 rfl hl (by decide) rfl (fun ls hl => ?_)
                                        refine lv_iinc (v := nI (k + 1)) (lv' := [(6, .int (nI (k + 1))), (3, .int x), (5, .int z_40), (4, .int y4_37), (9, .int 0), (8, .int (nI n)), (7, .int (nI j)), (0, .ref m0), (1, .int (nI k_1)), (2, .int (nI w_7))]) hx hb dX9_narrow_195 hl (k := 6) rfl (my_incN k 1 (by decide +kernel)) (by decide) rfl (fun ls hl => ?_)
                                        refine lv_goto (tgt := 37) hx hb dX9_narrow_198 (by decide) ?_
                                        exact ih37  (k + 1) z_40 y4_37 x (by omega) (by first | assumption | omega | decide +kernel) (by first | assumption | omega | decide +kernel) (by first | assumption | omega | decide +kernel) (by first | assumption | omega | decide +kernel) (by first | (exfalso; omega) | exact nr_skip hnr (ln_no0 (fun h9 => by have h8 := congrArg Int32.toInt h9; rw [nI_toInt (by omega)] at h8; omega)) | exact nr_skip hnr (ln_no (k := j) (by omega) (by omega)) | (refine nr_less hnr (ln_mk (k := j - 1) (my_eqI (by assumption) (nI_toInt (by omega))) (q := j - k) (by omega) (by omega) (by omega) (by rw [show j - 1 + 1 = j from (by omega)]; omega) (hlast (by omega))) (by omega) (by omega)) | exact nr_more hnr (ln_mk (k := j - 1) (my_eqI (by assumption) (nI_toInt (by omega))) (q := j - k) (by omega) (by omega) (by omega) (by rw [show j - 1 + 1 = j from (by omega)]; omega) (hlast (by omega))) (by omega) (by omega)) _ _ ls hP hD hS (lv_sub hl [0, 2, 3, 1, 7, 8, 9] rfl)
                                      ·
                                        exact absurd c182 (by decide +kernel)
                                  ·
                                    exact absurd c151 (by decide +kernel)
                                ·
                                  exact absurd c137 (by decide +kernel)
                              ·
                                have d125 : z_37.toInt < x.toInt := my_nge c125 rfl rfl
                                refine lv_iconst (v := 1) hx hb dX9_narrow_128 (by decide +kernel) ?_
                                refine lv_goto (tgt := 133) hx hb dX9_narrow_129 (by decide) ?_
                                refine lv_istore (lv' := [(9, .int 1), (8, .int (nI n)), (7, .int (nI j)), (6, .int (nI k)), (5, .int y5_37), (4, .int y4_37), (3, .int x), (0, .ref m0), (1, .int (nI k_1)), (2, .int (nI w_7))]) hx hb dX9_narrow_133 hl (by decide) rfl (fun ls hl => ?_)
                                refine lv_iload hx hb dX9_narrow_135 (lv_at hl 0 rfl) ?_
                                refine lv_if_eq (tgt := 145) hx hb dX9_narrow_137 (by decide) (fun c137 => ?_) (fun c137 => ?_)
                                ·
                                  exact absurd c137 (by decide +kernel)
                                ·
                                  refine lv_iload hx hb dX9_narrow_140 (lv_at hl 3 rfl) ?_
                                  refine lv_goto (tgt := 147) hx hb dX9_narrow_142 (by decide) ?_
                                  refine lv_istore (lv' := [(4, .int (nI k)), (9, .int 1), (8, .int (nI n)), (7, .int (nI j)), (6, .int (nI k)), (5, .int y5_37), (3, .int x), (0, .ref m0), (1, .int (nI k_1)), (2, .int (nI w_7))]) hx hb dX9_narrow_147 hl (by decide) rfl (fun ls hl => ?_)
                                  refine lv_iload hx hb dX9_narrow_149 (lv_at hl 1 rfl) ?_
                                  refine lv_if_eq (tgt := 158) hx hb dX9_narrow_151 (by decide) (fun c151 => ?_) (fun c151 => ?_)
                                  ·
                                    exact absurd c151 (by decide +kernel)
                                  ·
                                    refine lv_iconst (v := 1) hx hb dX9_narrow_154 (by decide +kernel) ?_
                                    refine lv_goto (tgt := 178) hx hb dX9_narrow_155 (by decide) ?_
                                    refine lv_istore (lv' := [(5, .int 1), (4, .int (nI k)), (9, .int 1), (8, .int (nI n)), (7, .int (nI j)), (6, .int (nI k)), (3, .int x), (0, .ref m0), (1, .int (nI k_1)), (2, .int (nI w_7))]) hx hb dX9_narrow_178 hl (by decide) rfl (fun ls hl => ?_)
                                    refine lv_iload hx hb dX9_narrow_180 (lv_at hl 2 rfl) ?_
                                    refine lv_if_eq (tgt := 193) hx hb dX9_narrow_182 (by decide) (fun c182 => ?_) (fun c182 => ?_)
                                    ·
                                      exact absurd c182 (by decide +kernel)
                                    ·
                                      refine lv_iload hx hb dX9_narrow_185 (lv_at hl 4 rfl) ?_
                                      refine lv_iload hx hb dX9_narrow_187 (lv_at hl 5 rfl) ?_
                                      refine lv_isub hx hb dX9_narrow_189 ?_
                                      refine lv_topi (fun z_41 ez_41 => ?_)
                                      try have tz_41 : z_41.toInt = ((j : Nat) : Int) - ((k : Nat) : Int) := by rw [ez_41]; exact my_subI (nI_toInt (by omega)) (nI_toInt (by omega)) (by omega) (by omega)
                                      refine lv_goto (tgt := 194) hx hb dX9_narrow_190 (by decide) ?_
                                      refine lv_istore_n (lv' := [(3, .int z_41), (5, .int 1), (4, .int (nI k)), (9, .int 1), (8, .int (nI n)), (7, .int (nI j)), (6, .int (nI k)), (0, .ref m0), (1, .int (nI k_1)), (2, .int (nI w_7))]) hx hb dX9_narrow_194 rfl hl (by decide) rfl (fun ls hl => ?_)
                                      refine lv_iinc (v := nI (k + 1)) (lv' := [(6, .int (nI (k + 1))), (3, .int z_41), (5, .int 1), (4, .int (nI k)), (9, .int 1), (8, .int (nI n)), (7, .int (nI j)), (0, .ref m0), (1, .int (nI k_1)), (2, .int (nI w_7))]) hx hb dX9_narrow_195 hl (k := 6) rfl (my_incN k 1 (by decide +kernel)) (by decide) rfl (fun ls hl => ?_)
                                      refine lv_goto (tgt := 37) hx hb dX9_narrow_198 (by decide) ?_
                                      have ec_42 : (1 : Int32).toInt = 1 := by decide +kernel
                                      have ec_43 : (nI k).toInt = _ := nI_toInt (by omega)
                                      exact ih37  (k + 1) (1 : Int32) (nI k) z_41 (by omega) (by first | assumption | omega | decide +kernel) (by first | assumption | omega | decide +kernel) (by first | assumption | omega | decide +kernel) (by first | assumption | omega | decide +kernel) (by first | (exfalso; omega) | exact nr_skip hnr (ln_no0 (fun h9 => by have h8 := congrArg Int32.toInt h9; rw [nI_toInt (by omega)] at h8; omega)) | exact nr_skip hnr (ln_no (k := j) (by omega) (by omega)) | (refine nr_less hnr (ln_mk (k := j - 1) (my_eqI (by assumption) (nI_toInt (by omega))) (q := j - k) (by omega) (by omega) (by omega) (by rw [show j - 1 + 1 = j from (by omega)]; omega) (hlast (by omega))) (by omega) (by omega)) | exact nr_more hnr (ln_mk (k := j - 1) (my_eqI (by assumption) (nI_toInt (by omega))) (q := j - k) (by omega) (by omega) (by omega) (by rw [show j - 1 + 1 = j from (by omega)]; omega) (hlast (by omega))) (by omega) (by omega)) _ _ ls hP hD hS (lv_sub hl [0, 2, 3, 1, 7, 8, 9] rfl)
                      ·
                        have d65 : ((n : Nat) : Int) < ((w_7 : Nat) : Int) := my_nge c65 (nI_toInt (by omega)) (nI_toInt (by omega))
                        refine lv_iload hx hb dX9_narrow_68 (lv_at hl 0 rfl) ?_
                        refine lv_aload_n hx hb dX9_narrow_70 rfl (lv_at hl 6 rfl) ?_
                        refine va_get (ci := 9) (v := .ref a_number) (C := RX9) (T := TX9) (N := 24) hx hb hts hi9 hown hK hP 0 rfl rfl 8 (by decide) fl49 (fun _ h9 => h9) rfl dX9_narrow_71 ?_
                        refine lv_iload hx hb dX9_narrow_74 (lv_at hl 1 rfl) ?_
                        refine va_iald hx hb hK hP 1 0 rfl rfl (vp_in_nI (by omega) (by omega)) dX9_narrow_76 ?_
                        refine my_eqi (y := mn j) (congrArg mn (nI_clamp (by omega))) ?_
                        have hb_44 := hR_mn j
                        refine lv_iload_n hx hb dX9_narrow_77 rfl (lv_at hl 7 rfl) ?_
                        refine lv_icmp_ne (tgt := 85) hx hb dX9_narrow_78 (by decide) (fun c78 => ?_) (fun c78 => ?_)
                        ·
                          have d78 : (mn j).toInt ≠ ((k_1 : Nat) : Int) := my_ne c78 rfl (nI_toInt (by omega))
                          refine lv_iconst (v := 0) hx hb dX9_narrow_85 (by decide +kernel) ?_
                          refine my_gpI (my_pS (As := [.int 0]) (rest := [.int (nI n)]) ⟨hx, hb, hml, hown, hts⟩ (va_cwS 1 hts gX9_narrow_X9_flag rfl rfl rfl (by decide +kernel) ⟨Nat.le_of_ble_eq_true rfl, Nat.le_of_ble_eq_true rfl⟩) hN hK hP [] rfl rfl hl.1 rfl (Nat.le_of_ble_eq_true rfl) dX9_narrow_86 ⟨Nat.le_of_ble_eq_true rfl, Nat.le_of_ble_eq_true rfl⟩  (k0_X9_flag l D cI cJ cK )) (fun r hp => ?_)
                          obtain rfl := hp
                          refine lv_iadd hx hb dX9_narrow_89 ?_
                          refine my_eqi (y := nI n) (my_addN n 0) ?_
                          refine lv_istore (lv' := [(8, .int (nI n)), (7, .int (nI j)), (6, .int (nI k)), (5, .int y5_37), (4, .int y4_37), (3, .int x), (0, .ref m0), (1, .int (nI k_1)), (2, .int (nI w_7))]) hx hb dX9_narrow_90 hl (by decide) rfl (fun ls hl => ?_)
                          refine lv_iinc (v := nI (j + 1)) (lv' := [(7, .int (nI (j + 1))), (8, .int (nI n)), (6, .int (nI k)), (5, .int y5_37), (4, .int y4_37), (3, .int x), (0, .ref m0), (1, .int (nI k_1)), (2, .int (nI w_7))]) hx hb dX9_narrow_92 hl (k := 1) rfl (my_incN j 1 (by decide +kernel)) (by decide) rfl (fun ls hl => ?_)
                          refine lv_goto (tgt := 53) hx hb dX9_narrow_95 (by decide) ?_
                          exact ih53  n (j + 1) (by omega) (by first | assumption | omega | decide +kernel) (by first | assumption | omega | decide +kernel) (by first | assumption | omega | decide +kernel) (by first | assumption | omega | decide +kernel) (by first | assumption | omega | decide +kernel) (by first | assumption | omega | decide +kernel) (by first | exact cn_go1 hcn (by omega) (by omega) (by assumption) | exact cn_go0 hcn (by omega) (by assumption)) (fun h9 => by first | (exfalso; omega) | (rw [show j + 1 - 1 = j from rfl]; exact my_eqI (by assumption) (nI_toInt (by omega)))) (fun h9 => by omega) _ _ ls hP hD hS (lv_sub hl [1, 0, 2, 3, 4, 5, 6, 7, 8] rfl)
                        ·
                          have d78 : (mn j).toInt = ((k_1 : Nat) : Int) := my_eq c78 rfl (nI_toInt (by omega))
                          refine lv_iconst (v := 1) hx hb dX9_narrow_81 (by decide +kernel) ?_
                          refine lv_goto (tgt := 86) hx hb dX9_narrow_82 (by decide) ?_
                          refine my_gpI (my_pS (As := [.int 1]) (rest := [.int (nI n)]) ⟨hx, hb, hml, hown, hts⟩ (va_cwS 1 hts gX9_narrow_X9_flag rfl rfl rfl (by decide +kernel) ⟨Nat.le_of_ble_eq_true rfl, Nat.le_of_ble_eq_true rfl⟩) hN hK hP [] rfl rfl hl.1 rfl (Nat.le_of_ble_eq_true rfl) dX9_narrow_86 ⟨Nat.le_of_ble_eq_true rfl, Nat.le_of_ble_eq_true rfl⟩  (k1_X9_flag l D cI cJ cK )) (fun r hp => ?_)
                          obtain rfl := hp
                          refine lv_iadd hx hb dX9_narrow_89 ?_
                          refine my_eqi (y := nI (n + 1)) (my_addN n 1) ?_
                          refine lv_istore (lv' := [(8, .int (nI (n + 1))), (7, .int (nI j)), (6, .int (nI k)), (5, .int y5_37), (4, .int y4_37), (3, .int x), (0, .ref m0), (1, .int (nI k_1)), (2, .int (nI w_7))]) hx hb dX9_narrow_90 hl (by decide) rfl (fun ls hl => ?_)
                          refine lv_iinc (v := nI (j + 1)) (lv' := [(7, .int (nI (j + 1))), (8, .int (nI (n + 1))), (6, .int (nI k)), (5, .int y5_37), (4, .int y4_37), (3, .int x), (0, .ref m0), (1, .int (nI k_1)), (2, .int (nI w_7))]) hx hb dX9_narrow_92 hl (k := 1) rfl (my_incN j 1 (by decide +kernel)) (by decide) rfl (fun ls hl => ?_)
                          refine lv_goto (tgt := 53) hx hb dX9_narrow_95 (by decide) ?_
                          exact ih53  (n + 1) (j + 1) (by omega) (by first | assumption | omega | decide +kernel) (by first | assumption | omega | decide +kernel) (by first | assumption | omega | decide +kernel) (by first | assumption | omega | decide +kernel) (by first | assumption | omega | decide +kernel) (by first | assumption | omega | decide +kernel) (by first | exact cn_go1 hcn (by omega) (by omega) (by assumption) | exact cn_go0 hcn (by omega) (by assumption)) (fun h9 => by first | (exfalso; omega) | (rw [show j + 1 - 1 = j from rfl]; exact my_eqI (by assumption) (nI_toInt (by omega)))) (fun h9 => by omega) _ _ ls hP hD hS (lv_sub hl [1, 0, 2, 3, 4, 5, 6, 7, 8] rfl)
                exact loop53 ((64 - k) + 1) 0 k (Nat.lt_succ_self _) (by first | assumption | omega | decide +kernel) (by first | assumption | omega | decide +kernel) (by first | assumption | omega | decide +kernel) (by first | assumption | omega | decide +kernel) (by first | assumption | omega | decide +kernel) (by first | assumption | omega | decide +kernel) ((cn_start (Nat.le_refl k)).symm) (fun h9 => absurd h9 (by omega)) (fun h9 => absurd h9 (by omega)) _ _ ls hP hD hS (lv_sub hl [0, 1, 2, 3, 4, 5, 6, 7, 8] rfl)
          have ec_45 : (0 : Int32).toInt = 0 := by decide +kernel
          have ec_46 : (0 : Int32).toInt = 0 := by decide +kernel
          have ec_47 : (-1 : Int32).toInt = -1 := by decide +kernel
          exact loop37 ((64 - 0) + 1) 0 (0 : Int32) (0 : Int32) (-1 : Int32) (Nat.lt_succ_self _) (by first | assumption | omega | decide +kernel) (by first | assumption | omega | decide +kernel) (by first | assumption | omega | decide +kernel) (by first | assumption | omega | decide +kernel) (nr_0 (by omega)) _ _ ls hP hD hS (lv_sub hl [0, 1, 2, 3, 4, 5, 6] rfl)
        ·
          exact absurd c21 (by decide +kernel)
      ·
        refine lv_if_ne (tgt := 26) hx hb dX9_narrow_21 (by decide) (fun c21 => ?_) (fun c21 => ?_)
        ·
          exact absurd c21 (by decide +kernel)
        ·
          refine lv_iconst (v := (-1)) hx hb dX9_narrow_24 (by decide +kernel) ?_
          have ec_48 : ((-1) : Int32).toInt = -1 := by decide +kernel
          have hsI_v9 : (nI k_1).toInt = ((k_1 : Nat) : Int) := nI_toInt (by omega)
          have hsN_v9 : (nI k_1).toInt.toNat = k_1 := nIt (by omega)
          exact my_retI hx hb hr hlocks hK hS (wl_k_X9_narrow cI cJ cK m0 a_row a_tape a_number a_read a_readBits a_stands a_parted a_bitsWere a_stood a_chosen a_bestChosen a_often a_sorted a_risen a_risenWays 0 (nI m_told) (nI m_taped) (nI m_at) (nI m_to) (nI m_many) (nI m_readMany) m_fewest (nI m_size) mn mr) hP hD (Or.inl ⟨0, rfl, rfl, (by first | assumption | omega | trivial | decide +kernel)⟩) dX9_narrow_25
  ·
    refine lv_if_eq (tgt := 24) hx hb dX9_narrow_9 (by decide) (fun c9 => ?_) (fun c9 => ?_)
    ·
      refine lv_iconst (v := (-1)) hx hb dX9_narrow_24 (by decide +kernel) ?_
      have ec_49 : ((-1) : Int32).toInt = -1 := by decide +kernel
      exact my_retI hx hb hr hlocks hK hS (wl_k_X9_narrow cI cJ cK m0 a_row a_tape a_number a_read a_readBits a_stands a_parted a_bitsWere a_stood a_chosen a_bestChosen a_often a_sorted a_risen a_risenWays 0 (nI m_told) (nI m_taped) (nI m_at) (nI m_to) (nI m_many) (nI m_readMany) m_fewest (nI m_size) mn mr) hP hD (Or.inl ⟨0, rfl, rfl, (by first | assumption | omega | trivial | decide +kernel)⟩) dX9_narrow_25
    ·
      exact absurd c9 (by decide +kernel)
abbrev wl_k_X9_lone (cI cJ cK : ClassId) (m0 : Nat) (a_row : Nat) (a_tape : Nat) (a_number : Nat) (a_read : Nat) (a_readBits : Nat) (a_stands : Nat) (a_parted : Nat) (a_bitsWere : Nat) (a_stood : Nat) (a_chosen : Nat) (a_bestChosen : Nat) (a_often : Nat) (a_sorted : Nat) (a_risen : Nat) (a_risenWays : Nat) (v0_ : Int32) (v1_ : Int32) (v2_ : Int32) (v3_ : Int32) (v4_ : Int32) (v5_ : Int32) (v6_ : Int32) (v7_ : Int32) (v8_ : Int32) (v9_ : Nat → Int32) (v10_ : Nat → Int32) (v11_ : Nat → Int64) : va_W := [(m0, .inr (9, [.int v0_, .int v1_, .ref a_row, .ref a_tape, .int v2_, .int v3_, .int v4_, .int v5_, .ref a_number, .ref a_read, .int v6_, .ref a_readBits, .ref a_stands, .ref a_parted, .ref a_bitsWere, .ref a_stood, .ref a_chosen, .ref a_bestChosen, .int v7_, .ref a_often, .ref a_sorted, .int v8_, .ref a_risen, .ref a_risenWays])), (a_number, .inl (cI, 64, .inl v9_)), (a_often, .inl (cI, 512, .inl v10_)), (a_row, .inl (cJ, 64, .inr (.inl v11_)))]
set_option maxHeartbeats 4000000 in
set_option maxRecDepth 100000 in
theorem k_X9_lone (l : Launch) (D : va_G) (cI cJ cK : ClassId) (m0 : Nat) (a_row : Nat) (a_tape : Nat) (a_number : Nat) (a_read : Nat) (a_readBits : Nat) (a_stands : Nat) (a_parted : Nat) (a_bitsWere : Nat) (a_stood : Nat) (a_chosen : Nat) (a_bestChosen : Nat) (a_often : Nat) (a_sorted : Nat) (a_risen : Nat) (a_risenWays : Nat) (m_thrown : Int32) (m_told : Nat) (m_taped : Nat) (m_at : Nat) (m_to : Nat) (m_many : Nat) (m_readMany : Nat) (m_fewest : Int32) (m_size : Nat) (mn : Nat → Int32) (mf : Nat → Int32) (mr : Nat → Int64) (l9 : Int32) (r9 : Int32) (hz_m_told : m_told ≤ 64) (hz_m_taped : m_taped ≤ 100) (hz_m_at : m_at ≤ 100) (hz_m_to : m_to ≤ 100) (hz_m_many : m_many ≤ 64) (hz_m_readMany : m_readMany ≤ 64) (hz_m_size : m_size ≤ 64) (hR_mn : RB 0 255 mn) : ctI l yX9_lone wsX9_lone ({ frames := 1, cells := 0, slots := 0, locals := 60 } : Room) D (tyIJ cI cJ cK) [.ref m0, .int l9, .int r9] (wl_k_X9_lone cI cJ cK m0 a_row a_tape a_number a_read a_readBits a_stands a_parted a_bitsWere a_stood a_chosen a_bestChosen a_often a_sorted a_risen a_risenWays m_thrown (nI m_told) (nI m_taped) (nI m_at) (nI m_to) (nI m_many) (nI m_readMany) m_fewest (nI m_size) mn mf mr) (fun (r : Int32) (u : va_W) => (∃ (m_thrown' : Int32), u = (wl_k_X9_lone cI cJ cK m0 a_row a_tape a_number a_read a_readBits a_stands a_parted a_bitsWere a_stood a_chosen a_bestChosen a_often a_sorted a_risen a_risenWays m_thrown' (nI m_told) (nI m_taped) (nI m_at) (nI m_to) (nI m_many) (nI m_readMany) m_fewest (nI m_size) mn mf mr) ∧ r = (-1) ∧ (l9.toInt < 0 ∨ r9.toInt < l9.toInt ∨ m_many < r9.toInt)) ∨ (∃ (t' : Nat) (m_thrown' : Int32) (m_told' : Nat) (mf' : Nat → Int32) (mr' : Nat → Int64), u = (wl_k_X9_lone cI cJ cK m0 a_row a_tape a_number a_read a_readBits a_stands a_parted a_bitsWere a_stood a_chosen a_bestChosen a_often a_sorted a_risen a_risenWays m_thrown' (nI m_told') (nI m_taped) (nI m_at) (nI m_to) (nI m_many) (nI m_readMany) m_fewest (nI m_size) mn mf' mr') ∧ r = nI t' ∧ m_told' ≤ 64 ∧ 0 ≤ l9.toInt ∧ l9.toInt ≤ r9.toInt ∧ r9.toInt ≤ m_many ∧ t' = fb_ct (lnP (cnF mn l9.toInt.toNat r9.toInt.toNat)) 256 ∧ m_told' = 2)) := by
  refine ctI.of (cc := cX9_lone) (maxL := 7) (ret := (some .int)) (by decide) rfl (Nat.le_of_ble_eq_true rfl) ?_
  intro p e s m below meth c ls A hx hb hr hts hown hml hlocks hname hA hK hN hP hD hS hl
  have hl : lv_has ls 7 [(0, .ref m0), (1, .int l9), (2, .int r9)] := hl
  have hown : s.vm.findClass RX9 = some m.cls := hown
  have hi9 : ∀ w ∈ u_ws RX9 TX9 24, w ∈ wsX9_lone := by decide +kernel
  have fl1 := hts (.fieldLink RX9 1 "PlaneColumnModel" "thrown" "I") (by decide +kernel)
  have fl11 := hts (.fieldLink RX9 11 "PlaneColumnModel" "told" "I") (by decide +kernel)
  refine lv_aload_n hx hb dX9_lone_0 rfl (lv_at hl 0 rfl) ?_
  refine lv_iconst (v := 0) hx hb dX9_lone_1 (by decide +kernel) ?_
  refine va_put (ci := 9) (v := .int 0) (ty := (.int)) (C := RX9) (T := TX9) (N := 24) hx hb hts hi9 tyX9 tyX9_ok nmX9 hown hK hP hD hS 0 rfl rfl 0 (by decide) fl1 (fun _ h9 => h9) rfl (by decide +kernel) rfl rfl (Nat.le_of_ble_eq_true rfl) dX9_lone_2 (fun H locs hP hD hS => ?_)
  have hP : va_P D vwCl (wl_k_X9_lone cI cJ cK m0 a_row a_tape a_number a_read a_readBits a_stands a_parted a_bitsWere a_stood a_chosen a_bestChosen a_often a_sorted a_risen a_risenWays 0 (nI m_told) (nI m_taped) (nI m_at) (nI m_to) (nI m_many) (nI m_readMany) m_fewest (nI m_size) mn mf mr) H := hP
  have hD : va_D A (wl_k_X9_lone cI cJ cK m0 a_row a_tape a_number a_read a_readBits a_stands a_parted a_bitsWere a_stood a_chosen a_bestChosen a_often a_sorted a_risen a_risenWays 0 (nI m_told) (nI m_taped) (nI m_at) (nI m_to) (nI m_many) (nI m_readMany) m_fewest (nI m_size) mn mf mr) := hD
  refine lv_aload_n hx hb dX9_lone_5 rfl (lv_at hl 0 rfl) ?_
  refine lv_iload_n hx hb dX9_lone_6 rfl (lv_at hl 1 rfl) ?_
  refine lv_iload_n hx hb dX9_lone_7 rfl (lv_at hl 2 rfl) ?_
  refine my_gpI (my_pV (As := [.int l9, .int r9]) (rest := []) (ci := 9) ⟨hx, hb, hml, hown, hts⟩ (cwV 2 hts gX9_lone_X9_isSpan rfl rfl rfl (by decide +kernel) ⟨Nat.le_of_ble_eq_true rfl, Nat.le_of_ble_eq_true rfl⟩) hN hK hP [0] rfl 0 rfl rfl rfl rfl hl.1 rfl (Nat.le_of_ble_eq_true rfl) dX9_lone_8 ⟨Nat.le_of_ble_eq_true rfl, Nat.le_of_ble_eq_true rfl⟩  (k_X9_isSpan l D cI cJ cK m0 a_row a_tape a_number a_read a_readBits a_stands a_parted a_bitsWere a_stood a_chosen a_bestChosen a_often a_sorted a_risen a_risenWays (0 : Int32) m_told m_taped m_at m_to m_many m_readMany m_fewest m_size l9 r9 (by first | assumption | omega | decide +kernel) (by first | assumption | omega | decide +kernel) (by first | assumption | omega | decide +kernel) (by first | assumption | omega | decide +kernel) (by first | assumption | omega | decide +kernel) (by first | assumption | omega | decide +kernel) (by first | assumption | omega | decide +kernel))) (fun r hp => ?_)
  rcases hp with ⟨a_1, b_2, rfl, rfl, rfl, ha_3, hb_4⟩ | ⟨rfl, ho_5⟩
  ·
    refine lv_if_ne (tgt := 16) hx hb dX9_lone_11 (by decide) (fun c11 => ?_) (fun c11 => ?_)
    ·
      refine lv_aload_n hx hb dX9_lone_16 rfl (lv_at hl 0 rfl) ?_
      refine lv_iconst (v := 0) hx hb dX9_lone_17 (by decide +kernel) ?_
      refine lv_iload_n hx hb dX9_lone_18 rfl (lv_at hl 1 rfl) ?_
      refine lv_iload_n hx hb dX9_lone_19 rfl (lv_at hl 2 rfl) ?_
      refine my_goVS (wc := (wl_k0_X9_counts cI cJ cK m0 a_row a_tape a_number a_read a_readBits a_stands a_parted a_bitsWere a_stood a_chosen a_bestChosen a_often a_sorted a_risen a_risenWays 0 (nI m_told) (nI m_taped) (nI m_at) (nI m_to) (nI m_many) (nI m_readMany) m_fewest (nI m_size) mn mf)) hP hD hS hA [0, 1, 2] rfl [some 0, some 1, some 2] (by decide +kernel) (my_cV (As := [.int 0, .int (nI a_1), .int (nI b_2)]) (rest := []) (ci := 9) (wc := (wl_k0_X9_counts cI cJ cK m0 a_row a_tape a_number a_read a_readBits a_stands a_parted a_bitsWere a_stood a_chosen a_bestChosen a_often a_sorted a_risen a_risenWays 0 (nI m_told) (nI m_taped) (nI m_at) (nI m_to) (nI m_many) (nI m_readMany) m_fewest (nI m_size) mn mf)) ⟨hx, hb, hml, hown, hts⟩ (cwV 3 hts gX9_lone_X9_counts rfl rfl rfl (by decide +kernel) ⟨Nat.le_of_ble_eq_true rfl, Nat.le_of_ble_eq_true rfl⟩) hN hK hP hD [0, 1, 2] rfl (by decide) rfl 0 rfl rfl rfl rfl hl.1 rfl (Nat.le_of_ble_eq_true rfl) dX9_lone_20 ⟨Nat.le_of_ble_eq_true rfl, Nat.le_of_ble_eq_true rfl⟩  ((k0_X9_counts l D cI cJ cK m0 a_row a_tape a_number a_read a_readBits a_stands a_parted a_bitsWere a_stood a_chosen a_bestChosen a_often a_sorted a_risen a_risenWays (0 : Int32) m_told m_taped m_at m_to m_many m_readMany m_fewest m_size mn mf a_1 b_2 (by first | assumption | omega | decide +kernel) (by first | assumption | omega | decide +kernel) (by first | assumption | omega | decide +kernel) (by first | assumption | omega | decide +kernel) (by first | assumption | omega | decide +kernel) (by first | assumption | omega | decide +kernel) (by first | assumption | omega | decide +kernel) hR_mn (by first | assumption | omega | decide +kernel) (by first | assumption | omega | decide +kernel)) _)) (fun u H locs hp hPD hS => ?_)
      obtain ⟨mf_6, rfl, hcn0, hco0⟩ := hp
      obtain ⟨hP, hD⟩ := hPD rfl
      have hP : va_P D vwCl (wl_k_X9_lone cI cJ cK m0 a_row a_tape a_number a_read a_readBits a_stands a_parted a_bitsWere a_stood a_chosen a_bestChosen a_often a_sorted a_risen a_risenWays 0 (nI m_told) (nI m_taped) (nI m_at) (nI m_to) (nI m_many) (nI m_readMany) m_fewest (nI m_size) mn mf_6 mr) H := hP
      have hD : va_D A (wl_k_X9_lone cI cJ cK m0 a_row a_tape a_number a_read a_readBits a_stands a_parted a_bitsWere a_stood a_chosen a_bestChosen a_often a_sorted a_risen a_risenWays 0 (nI m_told) (nI m_taped) (nI m_at) (nI m_to) (nI m_many) (nI m_readMany) m_fewest (nI m_size) mn mf_6 mr) := hD
      refine lv_iconst (v := 0) hx hb dX9_lone_23 (by decide +kernel) ?_
      refine lv_istore_n (lv' := [(3, .int 0), (0, .ref m0), (1, .int (nI a_1)), (2, .int (nI b_2))]) hx hb dX9_lone_24 rfl hl (by decide) rfl (fun ls hl => ?_)
      refine lv_iconst (v := (-1)) hx hb dX9_lone_25 (by decide +kernel) ?_
      refine lv_istore (lv' := [(4, .int (-1)), (3, .int 0), (0, .ref m0), (1, .int (nI a_1)), (2, .int (nI b_2))]) hx hb dX9_lone_26 hl (by decide) rfl (fun ls hl => ?_)
      refine lv_iconst (v := (-1)) hx hb dX9_lone_28 (by decide +kernel) ?_
      refine lv_istore (lv' := [(5, .int (-1)), (4, .int (-1)), (3, .int 0), (0, .ref m0), (1, .int (nI a_1)), (2, .int (nI b_2))]) hx hb dX9_lone_29 hl (by decide) rfl (fun ls hl => ?_)
      refine lv_iconst (v := 0) hx hb dX9_lone_31 (by decide +kernel) ?_
      refine lv_istore (lv' := [(6, .int 0), (5, .int (-1)), (4, .int (-1)), (3, .int 0), (0, .ref m0), (1, .int (nI a_1)), (2, .int (nI b_2))]) hx hb dX9_lone_32 hl (by decide) rfl (fun ls hl => ?_)
      have loop34 : ∀ (n9 : Nat) (v : Nat) (y5_34 : Int32) (y4_34 : Int32) (t : Nat), 256 - v < n9 → (t ≤ 256) → (v ≤ 256) → (t ≤ v) → (t = fb_ct (lnP (cnF mn a_1 b_2)) v) → ∀ (H : Heap) (locs : List Loc) (ls : Array Slot), va_P D vwCl (wl_k_X9_lone cI cJ cK m0 a_row a_tape a_number a_read a_readBits a_stands a_parted a_bitsWere a_stood a_chosen a_bestChosen a_often a_sorted a_risen a_risenWays 0 (nI m_told) (nI m_taped) (nI m_at) (nI m_to) (nI m_many) (nI m_readMany) m_fewest (nI m_size) mn mf_6 mr) H → va_D A (wl_k_X9_lone cI cJ cK m0 a_row a_tape a_number a_read a_readBits a_stands a_parted a_bitsWere a_stood a_chosen a_bestChosen a_often a_sorted a_risen a_risenWays 0 (nI m_told) (nI m_taped) (nI m_at) (nI m_to) (nI m_many) (nI m_readMany) m_fewest (nI m_size) mn mf_6 mr) → va_S A s.heap H locs → lv_has ls 7 [(6, .int (nI v)), (5, .int y5_34), (4, .int y4_34), (3, .int (nI t)), (0, .ref m0), (1, .int (nI a_1)), (2, .int (nI b_2))] → W p l e ({ frames := 1, cells := 0, slots := 0, locals := 60 } : Room) s m [.ref m0, .int (nI a_1), .int (nI b_2)].toArray below meth c H locs 0 0 (MQ below (va_Qi (fun (r : Int32) (u : va_W) => (∃ (m_thrown' : Int32), u = (wl_k_X9_lone cI cJ cK m0 a_row a_tape a_number a_read a_readBits a_stands a_parted a_bitsWere a_stood a_chosen a_bestChosen a_often a_sorted a_risen a_risenWays m_thrown' (nI m_told) (nI m_taped) (nI m_at) (nI m_to) (nI m_many) (nI m_readMany) m_fewest (nI m_size) mn mf mr) ∧ r = (-1) ∧ ((nI a_1).toInt < 0 ∨ (nI b_2).toInt < (nI a_1).toInt ∨ m_many < (nI b_2).toInt)) ∨ (∃ (t' : Nat) (m_thrown' : Int32) (m_told' : Nat) (mf' : Nat → Int32) (mr' : Nat → Int64), u = (wl_k_X9_lone cI cJ cK m0 a_row a_tape a_number a_read a_readBits a_stands a_parted a_bitsWere a_stood a_chosen a_bestChosen a_often a_sorted a_risen a_risenWays m_thrown' (nI m_told') (nI m_taped) (nI m_at) (nI m_to) (nI m_many) (nI m_readMany) m_fewest (nI m_size) mn mf' mr') ∧ r = nI t' ∧ m_told' ≤ 64 ∧ 0 ≤ (nI a_1).toInt ∧ (nI a_1).toInt ≤ (nI b_2).toInt ∧ (nI b_2).toInt ≤ m_many ∧ t' = fb_ct (lnP (cnF mn (nI a_1).toInt.toNat (nI b_2).toInt.toNat)) 256 ∧ m_told' = 2)) (my_B D (tyIJ cI cJ cK) A) A) [.ref m0, .int (nI a_1), .int (nI b_2)].toArray s 0 0 A) (F0 m 34 ls []) := by
        intro n9
        induction n9 with
        | zero =>
          intro v y5_34 y4_34 t hn9
          exact absurd hn9 (Nat.not_lt_zero _)
        | succ n9 ih34 =>
          intro v y5_34 y4_34 t hn9 hk_t hk_v htv ht H locs ls hP hD hS hl
          refine lv_iload hx hb dX9_lone_34 (lv_at hl 0 rfl) ?_
          refine lv_sipush (v := 256) hx hb dX9_lone_36 (by decide +kernel) ?_
          refine lv_icmp_ge (tgt := 79) hx hb dX9_lone_39 (by decide) (fun c39 => ?_) (fun c39 => ?_)
          ·
            have d39 : ((v : Nat) : Int) ≥ (256 : Int) := my_ge c39 (nI_toInt (by omega)) (by decide +kernel)
            refine lv_aload_n hx hb dX9_lone_79 rfl (lv_at hl 4 rfl) ?_
            refine lv_iconst (v := 0) hx hb dX9_lone_80 (by decide +kernel) ?_
            refine va_put (ci := 9) (v := .int 0) (ty := (.int)) (C := RX9) (T := TX9) (N := 24) hx hb hts hi9 tyX9 tyX9_ok nmX9 hown hK hP hD hS 0 rfl rfl 1 (by decide) fl11 (fun _ h9 => h9) rfl (by decide +kernel) rfl rfl (Nat.le_of_ble_eq_true rfl) dX9_lone_81 (fun H locs hP hD hS => ?_)
            have hP : va_P D vwCl (wl_k_X9_lone cI cJ cK m0 a_row a_tape a_number a_read a_readBits a_stands a_parted a_bitsWere a_stood a_chosen a_bestChosen a_often a_sorted a_risen a_risenWays 0 0 (nI m_taped) (nI m_at) (nI m_to) (nI m_many) (nI m_readMany) m_fewest (nI m_size) mn mf_6 mr) H := hP
            have hD : va_D A (wl_k_X9_lone cI cJ cK m0 a_row a_tape a_number a_read a_readBits a_stands a_parted a_bitsWere a_stood a_chosen a_bestChosen a_often a_sorted a_risen a_risenWays 0 0 (nI m_taped) (nI m_at) (nI m_to) (nI m_many) (nI m_readMany) m_fewest (nI m_size) mn mf_6 mr) := hD
            refine lv_aload_n hx hb dX9_lone_84 rfl (lv_at hl 4 rfl) ?_
            refine lv_iload hx hb dX9_lone_85 (lv_at hl 2 rfl) ?_
            refine lv_i2l (v := y4_34.toInt64) hx hb dX9_lone_87 rfl ?_
            refine my_goVS (wc := (wl_k_X9_enters cI cJ cK m0 a_row a_tape a_number a_read a_readBits a_stands a_parted a_bitsWere a_stood a_chosen a_bestChosen a_often a_sorted a_risen a_risenWays 0 0 (nI m_taped) (nI m_at) (nI m_to) (nI m_many) (nI m_readMany) m_fewest (nI m_size) mr)) hP hD hS hA [0, 3] rfl [some 0, none, none, some 1] (by decide +kernel) (my_cV (As := [.long y4_34.toInt64]) (rest := []) (ci := 9) (wc := (wl_k_X9_enters cI cJ cK m0 a_row a_tape a_number a_read a_readBits a_stands a_parted a_bitsWere a_stood a_chosen a_bestChosen a_often a_sorted a_risen a_risenWays 0 0 (nI m_taped) (nI m_at) (nI m_to) (nI m_many) (nI m_readMany) m_fewest (nI m_size) mr)) ⟨hx, hb, hml, hown, hts⟩ (cwV 1 hts gX9_lone_X9_enters rfl rfl rfl (by decide +kernel) ⟨Nat.le_of_ble_eq_true rfl, Nat.le_of_ble_eq_true rfl⟩) hN hK hP hD [0, 3] rfl (by decide) rfl 0 rfl rfl rfl rfl hl.1 rfl (Nat.le_of_ble_eq_true rfl) dX9_lone_88 ⟨Nat.le_of_ble_eq_true rfl, Nat.le_of_ble_eq_true rfl⟩  ((k_X9_enters l D cI cJ cK m0 a_row a_tape a_number a_read a_readBits a_stands a_parted a_bitsWere a_stood a_chosen a_bestChosen a_often a_sorted a_risen a_risenWays (0 : Int32) 0 m_taped m_at m_to m_many m_readMany m_fewest m_size mr y4_34.toInt64 (by first | assumption | omega | decide +kernel) (by first | assumption | omega | decide +kernel) (by first | assumption | omega | decide +kernel) (by first | assumption | omega | decide +kernel) (by first | assumption | omega | decide +kernel) (by first | assumption | omega | decide +kernel) (by first | assumption | omega | decide +kernel) (by first | assumption | omega | decide +kernel)) _)) (fun u H locs hp hPD hS => ?_)
            obtain ⟨m_told_7, mr_8, rfl, hhz_m_told_9, ht_10⟩ := hp
            obtain ⟨hP, hD⟩ := hPD rfl
            have hP : va_P D vwCl (wl_k_X9_lone cI cJ cK m0 a_row a_tape a_number a_read a_readBits a_stands a_parted a_bitsWere a_stood a_chosen a_bestChosen a_often a_sorted a_risen a_risenWays 0 (nI m_told_7) (nI m_taped) (nI m_at) (nI m_to) (nI m_many) (nI m_readMany) m_fewest (nI m_size) mn mf_6 mr_8) H := hP
            have hD : va_D A (wl_k_X9_lone cI cJ cK m0 a_row a_tape a_number a_read a_readBits a_stands a_parted a_bitsWere a_stood a_chosen a_bestChosen a_often a_sorted a_risen a_risenWays 0 (nI m_told_7) (nI m_taped) (nI m_at) (nI m_to) (nI m_many) (nI m_readMany) m_fewest (nI m_size) mn mf_6 mr_8) := hD
            refine lv_aload_n hx hb dX9_lone_91 rfl (lv_at hl 4 rfl) ?_
            refine lv_iload hx hb dX9_lone_92 (lv_at hl 1 rfl) ?_
            refine lv_i2l (v := y5_34.toInt64) hx hb dX9_lone_94 rfl ?_
            refine my_goVS (wc := (wl_k_X9_enters cI cJ cK m0 a_row a_tape a_number a_read a_readBits a_stands a_parted a_bitsWere a_stood a_chosen a_bestChosen a_often a_sorted a_risen a_risenWays 0 (nI m_told_7) (nI m_taped) (nI m_at) (nI m_to) (nI m_many) (nI m_readMany) m_fewest (nI m_size) mr_8)) hP hD hS hA [0, 3] rfl [some 0, none, none, some 1] (by decide +kernel) (my_cV (As := [.long y5_34.toInt64]) (rest := []) (ci := 9) (wc := (wl_k_X9_enters cI cJ cK m0 a_row a_tape a_number a_read a_readBits a_stands a_parted a_bitsWere a_stood a_chosen a_bestChosen a_often a_sorted a_risen a_risenWays 0 (nI m_told_7) (nI m_taped) (nI m_at) (nI m_to) (nI m_many) (nI m_readMany) m_fewest (nI m_size) mr_8)) ⟨hx, hb, hml, hown, hts⟩ (cwV 1 hts gX9_lone_X9_enters rfl rfl rfl (by decide +kernel) ⟨Nat.le_of_ble_eq_true rfl, Nat.le_of_ble_eq_true rfl⟩) hN hK hP hD [0, 3] rfl (by decide) rfl 0 rfl rfl rfl rfl hl.1 rfl (Nat.le_of_ble_eq_true rfl) dX9_lone_95 ⟨Nat.le_of_ble_eq_true rfl, Nat.le_of_ble_eq_true rfl⟩  ((k_X9_enters l D cI cJ cK m0 a_row a_tape a_number a_read a_readBits a_stands a_parted a_bitsWere a_stood a_chosen a_bestChosen a_often a_sorted a_risen a_risenWays (0 : Int32) m_told_7 m_taped m_at m_to m_many m_readMany m_fewest m_size mr_8 y5_34.toInt64 (by first | assumption | omega | decide +kernel) (by first | assumption | omega | decide +kernel) (by first | assumption | omega | decide +kernel) (by first | assumption | omega | decide +kernel) (by first | assumption | omega | decide +kernel) (by first | assumption | omega | decide +kernel) (by first | assumption | omega | decide +kernel) (by first | assumption | omega | decide +kernel)) _)) (fun u H locs hp hPD hS => ?_)
            obtain ⟨m_told_11, mr_12, rfl, hhz_m_told_13, ht_14⟩ := hp
            obtain ⟨hP, hD⟩ := hPD rfl
            have hP : va_P D vwCl (wl_k_X9_lone cI cJ cK m0 a_row a_tape a_number a_read a_readBits a_stands a_parted a_bitsWere a_stood a_chosen a_bestChosen a_often a_sorted a_risen a_risenWays 0 (nI m_told_11) (nI m_taped) (nI m_at) (nI m_to) (nI m_many) (nI m_readMany) m_fewest (nI m_size) mn mf_6 mr_12) H := hP
            have hD : va_D A (wl_k_X9_lone cI cJ cK m0 a_row a_tape a_number a_read a_readBits a_stands a_parted a_bitsWere a_stood a_chosen a_bestChosen a_often a_sorted a_risen a_risenWays 0 (nI m_told_11) (nI m_taped) (nI m_at) (nI m_to) (nI m_many) (nI m_readMany) m_fewest (nI m_size) mn mf_6 mr_12) := hD
            refine lv_iload_n hx hb dX9_lone_98 rfl (lv_at hl 3 rfl) ?_
            have hsI_l9 : (nI a_1).toInt = ((a_1 : Nat) : Int) := nI_toInt (by omega)
            have hsN_l9 : (nI a_1).toInt.toNat = a_1 := nIt (by omega)
            have hsI_r9 : (nI b_2).toInt = ((b_2 : Nat) : Int) := nI_toInt (by omega)
            have hsN_r9 : (nI b_2).toInt.toNat = b_2 := nIt (by omega)
            exact my_retI hx hb hr hlocks hK hS (wl_k_X9_lone cI cJ cK m0 a_row a_tape a_number a_read a_readBits a_stands a_parted a_bitsWere a_stood a_chosen a_bestChosen a_often a_sorted a_risen a_risenWays 0 (nI m_told_11) (nI m_taped) (nI m_at) (nI m_to) (nI m_many) (nI m_readMany) m_fewest (nI m_size) mn mf_6 mr_12) hP hD (Or.inr (⟨t, 0, m_told_11, mf_6, mr_12, rfl, rfl, (by first | assumption | omega | trivial | decide +kernel), (by first | assumption | omega | trivial | decide +kernel), (by first | assumption | omega | trivial | decide +kernel), (by first | assumption | omega | trivial | decide +kernel), (by rw [hsN_l9, hsN_r9, ht, show v = 256 from (by omega)]), (by first | assumption | omega | trivial | decide +kernel)⟩)) dX9_lone_99
          ·
            have d39 : ((v : Nat) : Int) < (256 : Int) := my_nge c39 (nI_toInt (by omega)) (by decide +kernel)
            refine lv_aload_n hx hb dX9_lone_42 rfl (lv_at hl 4 rfl) ?_
            refine lv_iconst (v := 0) hx hb dX9_lone_43 (by decide +kernel) ?_
            refine lv_iload hx hb dX9_lone_44 (lv_at hl 0 rfl) ?_
            refine my_gpI (my_pV (As := [.int 0, .int (nI v)]) (rest := []) (ci := 9) ⟨hx, hb, hml, hown, hts⟩ (cwV 2 hts gX9_lone_X9_times rfl rfl rfl (by decide +kernel) ⟨Nat.le_of_ble_eq_true rfl, Nat.le_of_ble_eq_true rfl⟩) hN hK hP [0, 2] rfl 0 rfl rfl rfl rfl hl.1 rfl (Nat.le_of_ble_eq_true rfl) dX9_lone_46 ⟨Nat.le_of_ble_eq_true rfl, Nat.le_of_ble_eq_true rfl⟩  (kt_X9_times l D cI cJ cK m0 a_row a_tape a_number a_read a_readBits a_stands a_parted a_bitsWere a_stood a_chosen a_bestChosen a_often a_sorted a_risen a_risenWays (0 : Int32) m_told m_taped m_at m_to m_many m_readMany m_fewest m_size mf_6 v (cnF mn a_1 b_2) (by first | assumption | omega | decide +kernel) (by first | assumption | omega | decide +kernel) (by first | assumption | omega | decide +kernel) (by first | assumption | omega | decide +kernel) (by first | assumption | omega | decide +kernel) (by first | assumption | omega | decide +kernel) (by first | assumption | omega | decide +kernel) (by first | assumption | omega | decide +kernel) (hcn0) (cnF_64 (by omega)))) (fun r hp => ?_)
            obtain ⟨t_15, rfl, htm, hq_16⟩ := hp
            refine lv_iconst (v := 1) hx hb dX9_lone_49 (by decide +kernel) ?_
            refine lv_icmp_ne (tgt := 73) hx hb dX9_lone_50 (by decide) (fun c50 => ?_) (fun c50 => ?_)
            ·
              have d50 : ((t_15 : Nat) : Int) ≠ (1 : Int) := my_ne c50 (nI_toInt (by omega)) (by decide +kernel)
              refine lv_iinc (v := nI (v + 1)) (lv' := [(6, .int (nI (v + 1))), (5, .int y5_34), (4, .int y4_34), (3, .int (nI t)), (0, .ref m0), (1, .int (nI a_1)), (2, .int (nI b_2))]) hx hb dX9_lone_73 hl (k := 0) rfl (my_incN v 1 (by decide +kernel)) (by decide) rfl (fun ls hl => ?_)
              refine lv_goto (tgt := 34) hx hb dX9_lone_76 (by decide) ?_
              exact ih34  (v + 1) y5_34 y4_34 t (by omega) (by first | assumption | omega | decide +kernel) (by first | assumption | omega | decide +kernel) (by first | assumption | omega | decide +kernel) (by first | exact ct_yes ht (decide_eq_true (by omega)) | exact ct_no ht (decide_eq_false (by omega))) _ _ ls hP hD hS (lv_sub hl [0, 1, 2, 3, 4, 5, 6] rfl)
            ·
              have d50 : ((t_15 : Nat) : Int) = (1 : Int) := my_eq c50 (nI_toInt (by omega)) (by decide +kernel)
              refine lv_iload_n hx hb dX9_lone_53 rfl (lv_at hl 3 rfl) ?_
              refine lv_if_ne (tgt := 62) hx hb dX9_lone_54 (by decide) (fun c54 => ?_) (fun c54 => ?_)
              ·
                have d54 : ((t : Nat) : Int) ≠ (0 : Int) := my_ne c54 (nI_toInt (by omega)) (by decide +kernel)
                refine lv_iload hx hb dX9_lone_62 (lv_at hl 2 rfl) ?_
                refine lv_istore (lv' := [(4, .int y4_34), (6, .int (nI v)), (5, .int y5_34), (3, .int (nI t)), (0, .ref m0), (1, .int (nI a_1)), (2, .int (nI b_2))]) hx hb dX9_lone_64 hl (by decide) rfl (fun ls hl => ?_)
                refine lv_iload hx hb dX9_lone_66 (lv_at hl 1 rfl) ?_
                refine lv_istore (lv' := [(5, .int (nI v)), (4, .int y4_34), (6, .int (nI v)), (3, .int (nI t)), (0, .ref m0), (1, .int (nI a_1)), (2, .int (nI b_2))]) hx hb dX9_lone_68 hl (by decide) rfl (fun ls hl => ?_)
                refine lv_iinc (v := nI (t + 1)) (lv' := [(3, .int (nI (t + 1))), (5, .int (nI v)), (4, .int y4_34), (6, .int (nI v)), (0, .ref m0), (1, .int (nI a_1)), (2, .int (nI b_2))]) hx hb dX9_lone_70 hl (k := 3) rfl (my_incN t 1 (by decide +kernel)) (by decide) rfl (fun ls hl => ?_)
                refine lv_iinc (v := nI (v + 1)) (lv' := [(6, .int (nI (v + 1))), (3, .int (nI (t + 1))), (5, .int (nI v)), (4, .int y4_34), (0, .ref m0), (1, .int (nI a_1)), (2, .int (nI b_2))]) hx hb dX9_lone_73 hl (k := 3) rfl (my_incN v 1 (by decide +kernel)) (by decide) rfl (fun ls hl => ?_)
                refine lv_goto (tgt := 34) hx hb dX9_lone_76 (by decide) ?_
                have ec_17 : (nI v).toInt = _ := nI_toInt (by omega)
                exact ih34  (v + 1) (nI v) y4_34 (t + 1) (by omega) (by first | assumption | omega | decide +kernel) (by first | assumption | omega | decide +kernel) (by first | assumption | omega | decide +kernel) (by first | exact ct_yes ht (decide_eq_true (by omega)) | exact ct_no ht (decide_eq_false (by omega))) _ _ ls hP hD hS (lv_sub hl [0, 2, 3, 1, 4, 5, 6] rfl)
              ·
                have d54 : ((t : Nat) : Int) = (0 : Int) := my_eq c54 (nI_toInt (by omega)) (by decide +kernel)
                refine lv_iload hx hb dX9_lone_57 (lv_at hl 0 rfl) ?_
                refine lv_goto (tgt := 64) hx hb dX9_lone_59 (by decide) ?_
                refine lv_istore (lv' := [(4, .int (nI v)), (6, .int (nI v)), (5, .int y5_34), (3, .int (nI t)), (0, .ref m0), (1, .int (nI a_1)), (2, .int (nI b_2))]) hx hb dX9_lone_64 hl (by decide) rfl (fun ls hl => ?_)
                refine lv_iload hx hb dX9_lone_66 (lv_at hl 1 rfl) ?_
                refine lv_istore (lv' := [(5, .int (nI v)), (4, .int (nI v)), (6, .int (nI v)), (3, .int (nI t)), (0, .ref m0), (1, .int (nI a_1)), (2, .int (nI b_2))]) hx hb dX9_lone_68 hl (by decide) rfl (fun ls hl => ?_)
                refine lv_iinc (v := nI (t + 1)) (lv' := [(3, .int (nI (t + 1))), (5, .int (nI v)), (4, .int (nI v)), (6, .int (nI v)), (0, .ref m0), (1, .int (nI a_1)), (2, .int (nI b_2))]) hx hb dX9_lone_70 hl (k := 3) rfl (my_incN t 1 (by decide +kernel)) (by decide) rfl (fun ls hl => ?_)
                refine lv_iinc (v := nI (v + 1)) (lv' := [(6, .int (nI (v + 1))), (3, .int (nI (t + 1))), (5, .int (nI v)), (4, .int (nI v)), (0, .ref m0), (1, .int (nI a_1)), (2, .int (nI b_2))]) hx hb dX9_lone_73 hl (k := 3) rfl (my_incN v 1 (by decide +kernel)) (by decide) rfl (fun ls hl => ?_)
                refine lv_goto (tgt := 34) hx hb dX9_lone_76 (by decide) ?_
                have ec_18 : (nI v).toInt = _ := nI_toInt (by omega)
                have ec_19 : (nI v).toInt = _ := nI_toInt (by omega)
                exact ih34  (v + 1) (nI v) (nI v) (t + 1) (by omega) (by first | assumption | omega | decide +kernel) (by first | assumption | omega | decide +kernel) (by first | assumption | omega | decide +kernel) (by first | exact ct_yes ht (decide_eq_true (by omega)) | exact ct_no ht (decide_eq_false (by omega))) _ _ ls hP hD hS (lv_sub hl [0, 2, 3, 1, 4, 5, 6] rfl)
      have ec_20 : (-1 : Int32).toInt = -1 := by decide +kernel
      have ec_21 : (-1 : Int32).toInt = -1 := by decide +kernel
      exact loop34 ((256 - 0) + 1) 0 (-1 : Int32) (-1 : Int32) 0 (Nat.lt_succ_self _) (by first | assumption | omega | decide +kernel) (by first | assumption | omega | decide +kernel) (by first | assumption | omega | decide +kernel) (rfl) _ _ ls hP hD hS (lv_sub hl [0, 1, 2, 3, 4, 5, 6] rfl)
    ·
      exact absurd c11 (by decide +kernel)
  ·
    refine lv_if_ne (tgt := 16) hx hb dX9_lone_11 (by decide) (fun c11 => ?_) (fun c11 => ?_)
    ·
      exact absurd c11 (by decide +kernel)
    ·
      refine lv_iconst (v := (-1)) hx hb dX9_lone_14 (by decide +kernel) ?_
      exact my_retI hx hb hr hlocks hK hS (wl_k_X9_lone cI cJ cK m0 a_row a_tape a_number a_read a_readBits a_stands a_parted a_bitsWere a_stood a_chosen a_bestChosen a_often a_sorted a_risen a_risenWays 0 (nI m_told) (nI m_taped) (nI m_at) (nI m_to) (nI m_many) (nI m_readMany) m_fewest (nI m_size) mn mf mr) hP hD (Or.inl ⟨0, rfl, rfl, (by first | assumption | omega | trivial | decide +kernel)⟩) dX9_lone_15
abbrev wl_k_X9_rises (cI cJ cK : ClassId) (m0 : Nat) (a_row : Nat) (a_tape : Nat) (a_number : Nat) (a_read : Nat) (a_readBits : Nat) (a_stands : Nat) (a_parted : Nat) (a_bitsWere : Nat) (a_stood : Nat) (a_chosen : Nat) (a_bestChosen : Nat) (a_often : Nat) (a_sorted : Nat) (a_risen : Nat) (a_risenWays : Nat) (v0_ : Int32) (v1_ : Int32) (v2_ : Int32) (v3_ : Int32) (v4_ : Int32) (v5_ : Int32) (v6_ : Int32) (v7_ : Int32) (v8_ : Int32) (v9_ : Nat → Int32) (v10_ : Nat → Int32) (v11_ : Nat → Int64) (v12_ : Nat → Int64) : va_W := [(m0, .inr (9, [.int v0_, .int v1_, .ref a_row, .ref a_tape, .int v2_, .int v3_, .int v4_, .int v5_, .ref a_number, .ref a_read, .int v6_, .ref a_readBits, .ref a_stands, .ref a_parted, .ref a_bitsWere, .ref a_stood, .ref a_chosen, .ref a_bestChosen, .int v7_, .ref a_often, .ref a_sorted, .int v8_, .ref a_risen, .ref a_risenWays])), (a_number, .inl (cI, 64, .inl v9_)), (a_risen, .inl (cI, 64, .inl v10_)), (a_risenWays, .inl (cJ, 64, .inr (.inl v11_))), (a_row, .inl (cJ, 64, .inr (.inl v12_)))]
set_option maxHeartbeats 4000000 in
set_option maxRecDepth 100000 in
theorem k_X9_rises (l : Launch) (D : va_G) (cI cJ cK : ClassId) (m0 : Nat) (a_row : Nat) (a_tape : Nat) (a_number : Nat) (a_read : Nat) (a_readBits : Nat) (a_stands : Nat) (a_parted : Nat) (a_bitsWere : Nat) (a_stood : Nat) (a_chosen : Nat) (a_bestChosen : Nat) (a_often : Nat) (a_sorted : Nat) (a_risen : Nat) (a_risenWays : Nat) (m_thrown : Int32) (m_told : Nat) (m_taped : Nat) (m_at : Nat) (m_to : Nat) (m_many : Nat) (m_readMany : Nat) (m_fewest : Int32) (m_size : Nat) (mn : Nat → Int32) (mi : Nat → Int32) (mj : Nat → Int64) (mr : Nat → Int64) (l9 : Int32) (r9 : Int32) (hz_m_told : m_told ≤ 64) (hz_m_taped : m_taped ≤ 100) (hz_m_at : m_at ≤ 100) (hz_m_to : m_to ≤ 100) (hz_m_many : m_many ≤ 64) (hz_m_readMany : m_readMany ≤ 64) (hz_m_size : m_size ≤ 64) (hR_mn : RB 0 255 mn) : ctI l yX9_rises wsX9_rises ({ frames := 1, cells := 0, slots := 0, locals := 60 } : Room) D (tyIJ cI cJ cK) [.ref m0, .int l9, .int r9] (wl_k_X9_rises cI cJ cK m0 a_row a_tape a_number a_read a_readBits a_stands a_parted a_bitsWere a_stood a_chosen a_bestChosen a_often a_sorted a_risen a_risenWays m_thrown (nI m_told) (nI m_taped) (nI m_at) (nI m_to) (nI m_many) (nI m_readMany) m_fewest (nI m_size) mn mi mj mr) (fun (r : Int32) (u : va_W) => (∃ (m_thrown' : Int32), u = (wl_k_X9_rises cI cJ cK m0 a_row a_tape a_number a_read a_readBits a_stands a_parted a_bitsWere a_stood a_chosen a_bestChosen a_often a_sorted a_risen a_risenWays m_thrown' (nI m_told) (nI m_taped) (nI m_at) (nI m_to) (nI m_many) (nI m_readMany) m_fewest (nI m_size) mn mi mj mr) ∧ r = (-1) ∧ (l9.toInt < 0 ∨ r9.toInt < l9.toInt ∨ m_many < r9.toInt)) ∨ (∃ (m_thrown' : Int32) (m_told' : Nat) (mi' : Nat → Int32) (mj' : Nat → Int64) (mr' : Nat → Int64), u = (wl_k_X9_rises cI cJ cK m0 a_row a_tape a_number a_read a_readBits a_stands a_parted a_bitsWere a_stood a_chosen a_bestChosen a_often a_sorted a_risen a_risenWays m_thrown' (nI m_told') (nI m_taped) (nI m_at) (nI m_to) (nI m_many) (nI m_readMany) m_fewest (nI m_size) mn mi' mj' mr') ∧ m_told' ≤ 64 ∧ 0 ≤ l9.toInt ∧ l9.toInt ≤ r9.toInt ∧ r9.toInt ≤ m_many ∧ r.toInt = ((lmF mn l9.toInt.toNat r9.toInt.toNat : Nat) : Int) ∧ True ∧ m_told' = 2)) := by
  refine ctI.of (cc := cX9_rises) (maxL := 8) (ret := (some .int)) (by decide) rfl (Nat.le_of_ble_eq_true rfl) ?_
  intro p e s m below meth c ls A hx hb hr hts hown hml hlocks hname hA hK hN hP hD hS hl
  have hl : lv_has ls 8 [(0, .ref m0), (1, .int l9), (2, .int r9)] := hl
  have hown : s.vm.findClass RX9 = some m.cls := hown
  have hi9 : ∀ w ∈ u_ws RX9 TX9 24, w ∈ wsX9_rises := by decide +kernel
  have fl1 := hts (.fieldLink RX9 1 "PlaneColumnModel" "thrown" "I") (by decide +kernel)
  have fl11 := hts (.fieldLink RX9 11 "PlaneColumnModel" "told" "I") (by decide +kernel)
  have fl49 := hts (.fieldLink RX9 49 "PlaneColumnModel" "number" "[I") (by decide +kernel)
  have fl82 := hts (.fieldLink RX9 82 "PlaneColumnModel" "risen" "[I") (by decide +kernel)
  have fl85 := hts (.fieldLink RX9 85 "PlaneColumnModel" "risenWays" "[J") (by decide +kernel)
  refine lv_aload_n hx hb dX9_rises_0 rfl (lv_at hl 0 rfl) ?_
  refine lv_iconst (v := 0) hx hb dX9_rises_1 (by decide +kernel) ?_
  refine va_put (ci := 9) (v := .int 0) (ty := (.int)) (C := RX9) (T := TX9) (N := 24) hx hb hts hi9 tyX9 tyX9_ok nmX9 hown hK hP hD hS 0 rfl rfl 0 (by decide) fl1 (fun _ h9 => h9) rfl (by decide +kernel) rfl rfl (Nat.le_of_ble_eq_true rfl) dX9_rises_2 (fun H locs hP hD hS => ?_)
  have hP : va_P D vwCl (wl_k_X9_rises cI cJ cK m0 a_row a_tape a_number a_read a_readBits a_stands a_parted a_bitsWere a_stood a_chosen a_bestChosen a_often a_sorted a_risen a_risenWays 0 (nI m_told) (nI m_taped) (nI m_at) (nI m_to) (nI m_many) (nI m_readMany) m_fewest (nI m_size) mn mi mj mr) H := hP
  have hD : va_D A (wl_k_X9_rises cI cJ cK m0 a_row a_tape a_number a_read a_readBits a_stands a_parted a_bitsWere a_stood a_chosen a_bestChosen a_often a_sorted a_risen a_risenWays 0 (nI m_told) (nI m_taped) (nI m_at) (nI m_to) (nI m_many) (nI m_readMany) m_fewest (nI m_size) mn mi mj mr) := hD
  refine lv_aload_n hx hb dX9_rises_5 rfl (lv_at hl 0 rfl) ?_
  refine lv_iload_n hx hb dX9_rises_6 rfl (lv_at hl 1 rfl) ?_
  refine lv_iload_n hx hb dX9_rises_7 rfl (lv_at hl 2 rfl) ?_
  refine my_gpI (my_pV (As := [.int l9, .int r9]) (rest := []) (ci := 9) ⟨hx, hb, hml, hown, hts⟩ (cwV 2 hts gX9_rises_X9_isSpan rfl rfl rfl (by decide +kernel) ⟨Nat.le_of_ble_eq_true rfl, Nat.le_of_ble_eq_true rfl⟩) hN hK hP [0] rfl 0 rfl rfl rfl rfl hl.1 rfl (Nat.le_of_ble_eq_true rfl) dX9_rises_8 ⟨Nat.le_of_ble_eq_true rfl, Nat.le_of_ble_eq_true rfl⟩  (k_X9_isSpan l D cI cJ cK m0 a_row a_tape a_number a_read a_readBits a_stands a_parted a_bitsWere a_stood a_chosen a_bestChosen a_often a_sorted a_risen a_risenWays (0 : Int32) m_told m_taped m_at m_to m_many m_readMany m_fewest m_size l9 r9 (by first | assumption | omega | decide +kernel) (by first | assumption | omega | decide +kernel) (by first | assumption | omega | decide +kernel) (by first | assumption | omega | decide +kernel) (by first | assumption | omega | decide +kernel) (by first | assumption | omega | decide +kernel) (by first | assumption | omega | decide +kernel))) (fun r hp => ?_)
  rcases hp with ⟨a_1, b_2, rfl, rfl, rfl, ha_3, hb_4⟩ | ⟨rfl, ho_5⟩
  ·
    refine lv_if_ne (tgt := 16) hx hb dX9_rises_11 (by decide) (fun c11 => ?_) (fun c11 => ?_)
    ·
      refine lv_iconst (v := 0) hx hb dX9_rises_16 (by decide +kernel) ?_
      refine lv_istore_n (lv' := [(3, .int 0), (0, .ref m0), (1, .int (nI a_1)), (2, .int (nI b_2))]) hx hb dX9_rises_17 rfl hl (by decide) rfl (fun ls hl => ?_)
      refine lv_iload_n hx hb dX9_rises_18 rfl (lv_at hl 2 rfl) ?_
      refine lv_istore (lv' := [(4, .int (nI a_1)), (3, .int 0), (0, .ref m0), (1, .int (nI a_1)), (2, .int (nI b_2))]) hx hb dX9_rises_19 hl (by decide) rfl (fun ls hl => ?_)
      have loop21 : ∀ (n9 : Nat) (k : Nat) (x : Int32) (a_risen_21 : Nat → Int32) (a_risenWays_21 : Nat → Int64), 64 - k < n9 → (k ≤ 64) → (a_1 ≤ k) → (k ≤ b_2) → (0 ≤ x.toInt) → (x.toInt ≤ 64) → (x.toInt = ((lmF mn a_1 k : Nat) : Int)) → (∀ q, a_1 ≤ q → q < k → a_risen_21 q = nI (LSq mn a_1 q)) → ∀ (H : Heap) (locs : List Loc) (ls : Array Slot), va_P D vwCl (wl_k_X9_rises cI cJ cK m0 a_row a_tape a_number a_read a_readBits a_stands a_parted a_bitsWere a_stood a_chosen a_bestChosen a_often a_sorted a_risen a_risenWays 0 (nI m_told) (nI m_taped) (nI m_at) (nI m_to) (nI m_many) (nI m_readMany) m_fewest (nI m_size) mn a_risen_21 a_risenWays_21 mr) H → va_D A (wl_k_X9_rises cI cJ cK m0 a_row a_tape a_number a_read a_readBits a_stands a_parted a_bitsWere a_stood a_chosen a_bestChosen a_often a_sorted a_risen a_risenWays 0 (nI m_told) (nI m_taped) (nI m_at) (nI m_to) (nI m_many) (nI m_readMany) m_fewest (nI m_size) mn a_risen_21 a_risenWays_21 mr) → va_S A s.heap H locs → lv_has ls 8 [(4, .int (nI k)), (3, .int x), (0, .ref m0), (1, .int (nI a_1)), (2, .int (nI b_2))] → W p l e ({ frames := 1, cells := 0, slots := 0, locals := 60 } : Room) s m [.ref m0, .int (nI a_1), .int (nI b_2)].toArray below meth c H locs 0 0 (MQ below (va_Qi (fun (r : Int32) (u : va_W) => (∃ (m_thrown' : Int32), u = (wl_k_X9_rises cI cJ cK m0 a_row a_tape a_number a_read a_readBits a_stands a_parted a_bitsWere a_stood a_chosen a_bestChosen a_often a_sorted a_risen a_risenWays m_thrown' (nI m_told) (nI m_taped) (nI m_at) (nI m_to) (nI m_many) (nI m_readMany) m_fewest (nI m_size) mn mi mj mr) ∧ r = (-1) ∧ ((nI a_1).toInt < 0 ∨ (nI b_2).toInt < (nI a_1).toInt ∨ m_many < (nI b_2).toInt)) ∨ (∃ (m_thrown' : Int32) (m_told' : Nat) (mi' : Nat → Int32) (mj' : Nat → Int64) (mr' : Nat → Int64), u = (wl_k_X9_rises cI cJ cK m0 a_row a_tape a_number a_read a_readBits a_stands a_parted a_bitsWere a_stood a_chosen a_bestChosen a_often a_sorted a_risen a_risenWays m_thrown' (nI m_told') (nI m_taped) (nI m_at) (nI m_to) (nI m_many) (nI m_readMany) m_fewest (nI m_size) mn mi' mj' mr') ∧ m_told' ≤ 64 ∧ 0 ≤ (nI a_1).toInt ∧ (nI a_1).toInt ≤ (nI b_2).toInt ∧ (nI b_2).toInt ≤ m_many ∧ r.toInt = ((lmF mn (nI a_1).toInt.toNat (nI b_2).toInt.toNat : Nat) : Int) ∧ True ∧ m_told' = 2)) (my_B D (tyIJ cI cJ cK) A) A) [.ref m0, .int (nI a_1), .int (nI b_2)].toArray s 0 0 A) (F0 m 21 ls []) := by
        intro n9
        induction n9 with
        | zero =>
          intro k x a_risen_21 a_risenWays_21 hn9
          exact absurd hn9 (Nat.not_lt_zero _)
        | succ n9 ih21 =>
          intro k x a_risen_21 a_risenWays_21 hn9 hk_k hak hkb hx0 hx1 hlm hls H locs ls hP hD hS hl
          refine lv_iload hx hb dX9_rises_21 (lv_at hl 0 rfl) ?_
          refine lv_iload_n hx hb dX9_rises_23 rfl (lv_at hl 4 rfl) ?_
          refine lv_icmp_ge (tgt := 191) hx hb dX9_rises_24 (by decide) (fun c24 => ?_) (fun c24 => ?_)
          ·
            have d24 : ((k : Nat) : Int) ≥ ((b_2 : Nat) : Int) := my_ge c24 (nI_toInt (by omega)) (nI_toInt (by omega))
            have hke : k = b_2 := by omega
            rw [hke] at hlm
            refine lv_iconst (v := (-1)) hx hb dX9_rises_191 (by decide +kernel) ?_
            refine lv_istore (lv' := [(4, .int (-1)), (3, .int x), (0, .ref m0), (1, .int (nI a_1)), (2, .int (nI b_2))]) hx hb dX9_rises_192 hl (by decide) rfl (fun ls hl => ?_)
            refine lv_lconst (v := 0) hx hb dX9_rises_194 (by decide +kernel) ?_
            refine lv_lstore (lv' := [(5, .long 0), (4, .int (-1)), (3, .int x), (0, .ref m0), (1, .int (nI a_1)), (2, .int (nI b_2))]) hx hb dX9_rises_195 hl (by decide) rfl (fun ls hl => ?_)
            refine lv_iload_n hx hb dX9_rises_197 rfl (lv_at hl 4 rfl) ?_
            refine lv_istore (lv' := [(7, .int (nI a_1)), (5, .long 0), (4, .int (-1)), (3, .int x), (0, .ref m0), (1, .int (nI a_1)), (2, .int (nI b_2))]) hx hb dX9_rises_198 hl (by decide) rfl (fun ls hl => ?_)
            have loop200 : ∀ (n9 : Nat) (i : Nat) (y5_200 : Int64) (y4_200 : Int32), 64 - i < n9 → (i ≤ 64) → ∀ (H : Heap) (locs : List Loc) (ls : Array Slot), va_P D vwCl (wl_k_X9_rises cI cJ cK m0 a_row a_tape a_number a_read a_readBits a_stands a_parted a_bitsWere a_stood a_chosen a_bestChosen a_often a_sorted a_risen a_risenWays 0 (nI m_told) (nI m_taped) (nI m_at) (nI m_to) (nI m_many) (nI m_readMany) m_fewest (nI m_size) mn a_risen_21 a_risenWays_21 mr) H → va_D A (wl_k_X9_rises cI cJ cK m0 a_row a_tape a_number a_read a_readBits a_stands a_parted a_bitsWere a_stood a_chosen a_bestChosen a_often a_sorted a_risen a_risenWays 0 (nI m_told) (nI m_taped) (nI m_at) (nI m_to) (nI m_many) (nI m_readMany) m_fewest (nI m_size) mn a_risen_21 a_risenWays_21 mr) → va_S A s.heap H locs → lv_has ls 8 [(7, .int (nI i)), (5, .long y5_200), (4, .int y4_200), (3, .int x), (0, .ref m0), (1, .int (nI a_1)), (2, .int (nI b_2))] → W p l e ({ frames := 1, cells := 0, slots := 0, locals := 60 } : Room) s m [.ref m0, .int (nI a_1), .int (nI b_2)].toArray below meth c H locs 0 0 (MQ below (va_Qi (fun (r : Int32) (u : va_W) => (∃ (m_thrown' : Int32), u = (wl_k_X9_rises cI cJ cK m0 a_row a_tape a_number a_read a_readBits a_stands a_parted a_bitsWere a_stood a_chosen a_bestChosen a_often a_sorted a_risen a_risenWays m_thrown' (nI m_told) (nI m_taped) (nI m_at) (nI m_to) (nI m_many) (nI m_readMany) m_fewest (nI m_size) mn mi mj mr) ∧ r = (-1) ∧ ((nI a_1).toInt < 0 ∨ (nI b_2).toInt < (nI a_1).toInt ∨ m_many < (nI b_2).toInt)) ∨ (∃ (m_thrown' : Int32) (m_told' : Nat) (mi' : Nat → Int32) (mj' : Nat → Int64) (mr' : Nat → Int64), u = (wl_k_X9_rises cI cJ cK m0 a_row a_tape a_number a_read a_readBits a_stands a_parted a_bitsWere a_stood a_chosen a_bestChosen a_often a_sorted a_risen a_risenWays m_thrown' (nI m_told') (nI m_taped) (nI m_at) (nI m_to) (nI m_many) (nI m_readMany) m_fewest (nI m_size) mn mi' mj' mr') ∧ m_told' ≤ 64 ∧ 0 ≤ (nI a_1).toInt ∧ (nI a_1).toInt ≤ (nI b_2).toInt ∧ (nI b_2).toInt ≤ m_many ∧ r.toInt = ((lmF mn (nI a_1).toInt.toNat (nI b_2).toInt.toNat : Nat) : Int) ∧ True ∧ m_told' = 2)) (my_B D (tyIJ cI cJ cK) A) A) [.ref m0, .int (nI a_1), .int (nI b_2)].toArray s 0 0 A) (F0 m 200 ls []) := by
              intro n9
              induction n9 with
              | zero =>
                intro i y5_200 y4_200 hn9
                exact absurd hn9 (Nat.not_lt_zero _)
              | succ n9 ih200 =>
                intro i y5_200 y4_200 hn9 hk_i H locs ls hP hD hS hl
                refine lv_iload hx hb dX9_rises_200 (lv_at hl 0 rfl) ?_
                refine lv_iload_n hx hb dX9_rises_202 rfl (lv_at hl 6 rfl) ?_
                refine lv_icmp_ge (tgt := 272) hx hb dX9_rises_203 (by decide) (fun c203 => ?_) (fun c203 => ?_)
                ·
                  have d203 : ((i : Nat) : Int) ≥ ((b_2 : Nat) : Int) := my_ge c203 (nI_toInt (by omega)) (nI_toInt (by omega))
                  refine lv_aload_n hx hb dX9_rises_272 rfl (lv_at hl 4 rfl) ?_
                  refine lv_iconst (v := 0) hx hb dX9_rises_273 (by decide +kernel) ?_
                  refine va_put (ci := 9) (v := .int 0) (ty := (.int)) (C := RX9) (T := TX9) (N := 24) hx hb hts hi9 tyX9 tyX9_ok nmX9 hown hK hP hD hS 0 rfl rfl 1 (by decide) fl11 (fun _ h9 => h9) rfl (by decide +kernel) rfl rfl (Nat.le_of_ble_eq_true rfl) dX9_rises_274 (fun H locs hP hD hS => ?_)
                  have hP : va_P D vwCl (wl_k_X9_rises cI cJ cK m0 a_row a_tape a_number a_read a_readBits a_stands a_parted a_bitsWere a_stood a_chosen a_bestChosen a_often a_sorted a_risen a_risenWays 0 0 (nI m_taped) (nI m_at) (nI m_to) (nI m_many) (nI m_readMany) m_fewest (nI m_size) mn a_risen_21 a_risenWays_21 mr) H := hP
                  have hD : va_D A (wl_k_X9_rises cI cJ cK m0 a_row a_tape a_number a_read a_readBits a_stands a_parted a_bitsWere a_stood a_chosen a_bestChosen a_often a_sorted a_risen a_risenWays 0 0 (nI m_taped) (nI m_at) (nI m_to) (nI m_many) (nI m_readMany) m_fewest (nI m_size) mn a_risen_21 a_risenWays_21 mr) := hD
                  refine lv_aload_n hx hb dX9_rises_277 rfl (lv_at hl 4 rfl) ?_
                  refine lv_iload hx hb dX9_rises_278 (lv_at hl 2 rfl) ?_
                  refine lv_i2l (v := y4_200.toInt64) hx hb dX9_rises_280 rfl ?_
                  refine my_goVS (wc := (wl_k_X9_enters cI cJ cK m0 a_row a_tape a_number a_read a_readBits a_stands a_parted a_bitsWere a_stood a_chosen a_bestChosen a_often a_sorted a_risen a_risenWays 0 0 (nI m_taped) (nI m_at) (nI m_to) (nI m_many) (nI m_readMany) m_fewest (nI m_size) mr)) hP hD hS hA [0, 4] rfl [some 0, none, none, none, some 1] (by decide +kernel) (my_cV (As := [.long y4_200.toInt64]) (rest := []) (ci := 9) (wc := (wl_k_X9_enters cI cJ cK m0 a_row a_tape a_number a_read a_readBits a_stands a_parted a_bitsWere a_stood a_chosen a_bestChosen a_often a_sorted a_risen a_risenWays 0 0 (nI m_taped) (nI m_at) (nI m_to) (nI m_many) (nI m_readMany) m_fewest (nI m_size) mr)) ⟨hx, hb, hml, hown, hts⟩ (cwV 1 hts gX9_rises_X9_enters rfl rfl rfl (by decide +kernel) ⟨Nat.le_of_ble_eq_true rfl, Nat.le_of_ble_eq_true rfl⟩) hN hK hP hD [0, 4] rfl (by decide) rfl 0 rfl rfl rfl rfl hl.1 rfl (Nat.le_of_ble_eq_true rfl) dX9_rises_281 ⟨Nat.le_of_ble_eq_true rfl, Nat.le_of_ble_eq_true rfl⟩  ((k_X9_enters l D cI cJ cK m0 a_row a_tape a_number a_read a_readBits a_stands a_parted a_bitsWere a_stood a_chosen a_bestChosen a_often a_sorted a_risen a_risenWays (0 : Int32) 0 m_taped m_at m_to m_many m_readMany m_fewest m_size mr y4_200.toInt64 (by first | assumption | omega | decide +kernel) (by first | assumption | omega | decide +kernel) (by first | assumption | omega | decide +kernel) (by first | assumption | omega | decide +kernel) (by first | assumption | omega | decide +kernel) (by first | assumption | omega | decide +kernel) (by first | assumption | omega | decide +kernel) (by first | assumption | omega | decide +kernel)) _)) (fun u H locs hp hPD hS => ?_)
                  obtain ⟨m_told_6, mr_7, rfl, hhz_m_told_8, ht_9⟩ := hp
                  obtain ⟨hP, hD⟩ := hPD rfl
                  have hP : va_P D vwCl (wl_k_X9_rises cI cJ cK m0 a_row a_tape a_number a_read a_readBits a_stands a_parted a_bitsWere a_stood a_chosen a_bestChosen a_often a_sorted a_risen a_risenWays 0 (nI m_told_6) (nI m_taped) (nI m_at) (nI m_to) (nI m_many) (nI m_readMany) m_fewest (nI m_size) mn a_risen_21 a_risenWays_21 mr_7) H := hP
                  have hD : va_D A (wl_k_X9_rises cI cJ cK m0 a_row a_tape a_number a_read a_readBits a_stands a_parted a_bitsWere a_stood a_chosen a_bestChosen a_often a_sorted a_risen a_risenWays 0 (nI m_told_6) (nI m_taped) (nI m_at) (nI m_to) (nI m_many) (nI m_readMany) m_fewest (nI m_size) mn a_risen_21 a_risenWays_21 mr_7) := hD
                  refine lv_aload_n hx hb dX9_rises_284 rfl (lv_at hl 4 rfl) ?_
                  refine lv_lload hx hb dX9_rises_285 (lv_at hl 1 rfl) ?_
                  refine my_goVS (wc := (wl_k_X9_enters cI cJ cK m0 a_row a_tape a_number a_read a_readBits a_stands a_parted a_bitsWere a_stood a_chosen a_bestChosen a_often a_sorted a_risen a_risenWays 0 (nI m_told_6) (nI m_taped) (nI m_at) (nI m_to) (nI m_many) (nI m_readMany) m_fewest (nI m_size) mr_7)) hP hD hS hA [0, 4] rfl [some 0, none, none, none, some 1] (by decide +kernel) (my_cV (As := [.long y5_200]) (rest := []) (ci := 9) (wc := (wl_k_X9_enters cI cJ cK m0 a_row a_tape a_number a_read a_readBits a_stands a_parted a_bitsWere a_stood a_chosen a_bestChosen a_often a_sorted a_risen a_risenWays 0 (nI m_told_6) (nI m_taped) (nI m_at) (nI m_to) (nI m_many) (nI m_readMany) m_fewest (nI m_size) mr_7)) ⟨hx, hb, hml, hown, hts⟩ (cwV 1 hts gX9_rises_X9_enters rfl rfl rfl (by decide +kernel) ⟨Nat.le_of_ble_eq_true rfl, Nat.le_of_ble_eq_true rfl⟩) hN hK hP hD [0, 4] rfl (by decide) rfl 0 rfl rfl rfl rfl hl.1 rfl (Nat.le_of_ble_eq_true rfl) dX9_rises_287 ⟨Nat.le_of_ble_eq_true rfl, Nat.le_of_ble_eq_true rfl⟩  ((k_X9_enters l D cI cJ cK m0 a_row a_tape a_number a_read a_readBits a_stands a_parted a_bitsWere a_stood a_chosen a_bestChosen a_often a_sorted a_risen a_risenWays (0 : Int32) m_told_6 m_taped m_at m_to m_many m_readMany m_fewest m_size mr_7 y5_200 (by first | assumption | omega | decide +kernel) (by first | assumption | omega | decide +kernel) (by first | assumption | omega | decide +kernel) (by first | assumption | omega | decide +kernel) (by first | assumption | omega | decide +kernel) (by first | assumption | omega | decide +kernel) (by first | assumption | omega | decide +kernel) (by first | assumption | omega | decide +kernel)) _)) (fun u H locs hp hPD hS => ?_)
                  obtain ⟨m_told_10, mr_11, rfl, hhz_m_told_12, ht_13⟩ := hp
                  obtain ⟨hP, hD⟩ := hPD rfl
                  have hP : va_P D vwCl (wl_k_X9_rises cI cJ cK m0 a_row a_tape a_number a_read a_readBits a_stands a_parted a_bitsWere a_stood a_chosen a_bestChosen a_often a_sorted a_risen a_risenWays 0 (nI m_told_10) (nI m_taped) (nI m_at) (nI m_to) (nI m_many) (nI m_readMany) m_fewest (nI m_size) mn a_risen_21 a_risenWays_21 mr_11) H := hP
                  have hD : va_D A (wl_k_X9_rises cI cJ cK m0 a_row a_tape a_number a_read a_readBits a_stands a_parted a_bitsWere a_stood a_chosen a_bestChosen a_often a_sorted a_risen a_risenWays 0 (nI m_told_10) (nI m_taped) (nI m_at) (nI m_to) (nI m_many) (nI m_readMany) m_fewest (nI m_size) mn a_risen_21 a_risenWays_21 mr_11) := hD
                  refine lv_iload_n hx hb dX9_rises_290 rfl (lv_at hl 3 rfl) ?_
                  have hsI_l9 : (nI a_1).toInt = ((a_1 : Nat) : Int) := nI_toInt (by omega)
                  have hsN_l9 : (nI a_1).toInt.toNat = a_1 := nIt (by omega)
                  have hsI_r9 : (nI b_2).toInt = ((b_2 : Nat) : Int) := nI_toInt (by omega)
                  have hsN_r9 : (nI b_2).toInt.toNat = b_2 := nIt (by omega)
                  exact my_retI hx hb hr hlocks hK hS (wl_k_X9_rises cI cJ cK m0 a_row a_tape a_number a_read a_readBits a_stands a_parted a_bitsWere a_stood a_chosen a_bestChosen a_often a_sorted a_risen a_risenWays 0 (nI m_told_10) (nI m_taped) (nI m_at) (nI m_to) (nI m_many) (nI m_readMany) m_fewest (nI m_size) mn a_risen_21 a_risenWays_21 mr_11) hP hD (Or.inr (⟨0, m_told_10, a_risen_21, a_risenWays_21, mr_11, rfl, (by first | assumption | omega | trivial | decide +kernel), (by first | assumption | omega | trivial | decide +kernel), (by first | assumption | omega | trivial | decide +kernel), (by first | assumption | omega | trivial | decide +kernel), (by rw [hsN_l9, hsN_r9]; exact hlm), (by first | assumption | omega | trivial | decide +kernel), (by first | assumption | omega | trivial | decide +kernel)⟩)) dX9_rises_291
                ·
                  have d203 : ((i : Nat) : Int) < ((b_2 : Nat) : Int) := my_nge c203 (nI_toInt (by omega)) (nI_toInt (by omega))
                  refine lv_aload_n hx hb dX9_rises_206 rfl (lv_at hl 4 rfl) ?_
                  refine va_get (ci := 9) (v := .ref a_risen) (C := RX9) (T := TX9) (N := 24) hx hb hts hi9 hown hK hP 0 rfl rfl 22 (by decide) fl82 (fun _ h9 => h9) rfl dX9_rises_207 ?_
                  refine lv_iload hx hb dX9_rises_210 (lv_at hl 0 rfl) ?_
                  refine va_iald hx hb hK hP 2 0 rfl rfl (vp_in_nI (by omega) (by omega)) dX9_rises_212 ?_
                  refine my_eqi (y := a_risen_21 i) (congrArg a_risen_21 (nI_clamp (by omega))) ?_
                  refine lv_iload_n hx hb dX9_rises_213 rfl (lv_at hl 3 rfl) ?_
                  refine lv_icmp_ne (tgt := 266) hx hb dX9_rises_214 (by decide) (fun c214 => ?_) (fun c214 => ?_)
                  ·
                    have d214 : (a_risen_21 i).toInt ≠ x.toInt := my_ne c214 rfl rfl
                    refine lv_iinc (v := nI (i + 1)) (lv' := [(7, .int (nI (i + 1))), (5, .long y5_200), (4, .int y4_200), (3, .int x), (0, .ref m0), (1, .int (nI a_1)), (2, .int (nI b_2))]) hx hb dX9_rises_266 hl (k := 0) rfl (my_incN i 1 (by decide +kernel)) (by decide) rfl (fun ls hl => ?_)
                    refine lv_goto (tgt := 200) hx hb dX9_rises_269 (by decide) ?_
                    exact ih200  (i + 1) y5_200 y4_200 (by omega) (by first | assumption | omega | decide +kernel) _ _ ls hP hD hS (lv_sub hl [0, 1, 2, 3, 4, 5, 6] rfl)
                  ·
                    have d214 : (a_risen_21 i).toInt = x.toInt := my_eq c214 rfl rfl
                    refine lv_iload hx hb dX9_rises_217 (lv_at hl 2 rfl) ?_
                    refine lv_if_lt (tgt := 234) hx hb dX9_rises_219 (by decide) (fun c219 => ?_) (fun c219 => ?_)
                    ·
                      have d219 : y4_200.toInt < (0 : Int) := my_lt c219 rfl (by decide +kernel)
                      refine lv_aload_n hx hb dX9_rises_234 rfl (lv_at hl 4 rfl) ?_
                      refine va_get (ci := 9) (v := .ref a_number) (C := RX9) (T := TX9) (N := 24) hx hb hts hi9 hown hK hP 0 rfl rfl 8 (by decide) fl49 (fun _ h9 => h9) rfl dX9_rises_235 ?_
                      refine lv_iload hx hb dX9_rises_238 (lv_at hl 0 rfl) ?_
                      refine va_iald hx hb hK hP 1 0 rfl rfl (vp_in_nI (by omega) (by omega)) dX9_rises_240 ?_
                      refine my_eqi (y := mn i) (congrArg mn (nI_clamp (by omega))) ?_
                      have hb_15 := hR_mn i
                      refine lv_goto (tgt := 246) hx hb dX9_rises_241 (by decide) ?_
                      refine lv_istore (lv' := [(4, .int (mn i)), (7, .int (nI i)), (5, .long y5_200), (3, .int x), (0, .ref m0), (1, .int (nI a_1)), (2, .int (nI b_2))]) hx hb dX9_rises_246 hl (by decide) rfl (fun ls hl => ?_)
                      refine lv_ldc2 (v := 1000000000) hx hb hown (hts (.constantLong RX9 210 (1000000000)) (by decide +kernel)) dX9_rises_248 ?_
                      refine lv_lload hx hb dX9_rises_251 (lv_at hl 2 rfl) ?_
                      refine lv_aload_n hx hb dX9_rises_253 rfl (lv_at hl 4 rfl) ?_
                      refine va_get (ci := 9) (v := .ref a_risenWays) (C := RX9) (T := TX9) (N := 24) hx hb hts hi9 hown hK hP 0 rfl rfl 23 (by decide) fl85 (fun _ h9 => h9) rfl dX9_rises_254 ?_
                      refine lv_iload hx hb dX9_rises_257 (lv_at hl 1 rfl) ?_
                      refine va_lald hx hb hK hP 3 1 rfl rfl (vp_in_nI (by omega) (by omega)) dX9_rises_259 ?_
                      refine my_eql (y := a_risenWays_21 i) (congrArg a_risenWays_21 (nI_clamp (by omega))) ?_
                      refine lv_ladd hx hb dX9_rises_260 ?_
                      refine lv_topl (fun z_17 ez_17 => ?_)
                      refine va_mmin_long hx hb (hml.trans hl.1.symm) hown (hts (.methodLink RX9 212 Lib.MathLoose.min_long.x) (by decide +kernel)) (hts (.static Lib.MathLoose.min_long.x) (by decide +kernel)) (hts (.initialized "java/lang/Math") (by decide +kernel)) (hts (.code Lib.MathLoose.min_long.x Lib.MathLoose.min_long.code 4 (some .long)) (by decide +kernel)) (Nat.le_of_ble_eq_true rfl) (Nat.le_of_ble_eq_true rfl) (Nat.le_of_ble_eq_true rfl) (Nat.le_of_ble_eq_true rfl) dX9_rises_261 ?_
                      refine lv_topl (fun z_18 ez_18 => ?_)
                      refine lv_lstore (lv' := [(5, .long z_18), (4, .int (mn i)), (7, .int (nI i)), (3, .int x), (0, .ref m0), (1, .int (nI a_1)), (2, .int (nI b_2))]) hx hb dX9_rises_264 hl (by decide) rfl (fun ls hl => ?_)
                      refine lv_iinc (v := nI (i + 1)) (lv' := [(7, .int (nI (i + 1))), (5, .long z_18), (4, .int (mn i)), (3, .int x), (0, .ref m0), (1, .int (nI a_1)), (2, .int (nI b_2))]) hx hb dX9_rises_266 hl (k := 2) rfl (my_incN i 1 (by decide +kernel)) (by decide) rfl (fun ls hl => ?_)
                      refine lv_goto (tgt := 200) hx hb dX9_rises_269 (by decide) ?_
                      exact ih200  (i + 1) z_18 (mn i) (by omega) (by first | assumption | omega | decide +kernel) _ _ ls hP hD hS (lv_sub hl [0, 1, 2, 3, 4, 5, 6] rfl)
                    ·
                      have d219 : y4_200.toInt ≥ (0 : Int) := my_nlt c219 rfl (by decide +kernel)
                      refine lv_aload_n hx hb dX9_rises_222 rfl (lv_at hl 4 rfl) ?_
                      refine va_get (ci := 9) (v := .ref a_number) (C := RX9) (T := TX9) (N := 24) hx hb hts hi9 hown hK hP 0 rfl rfl 8 (by decide) fl49 (fun _ h9 => h9) rfl dX9_rises_223 ?_
                      refine lv_iload hx hb dX9_rises_226 (lv_at hl 0 rfl) ?_
                      refine va_iald hx hb hK hP 1 0 rfl rfl (vp_in_nI (by omega) (by omega)) dX9_rises_228 ?_
                      refine my_eqi (y := mn i) (congrArg mn (nI_clamp (by omega))) ?_
                      have hb_19 := hR_mn i
                      refine lv_iload hx hb dX9_rises_229 (lv_at hl 2 rfl) ?_
                      refine lv_icmp_ge (tgt := 244) hx hb dX9_rises_231 (by decide) (fun c231 => ?_) (fun c231 => ?_)
                      ·
                        have d231 : (mn i).toInt ≥ y4_200.toInt := my_ge c231 rfl rfl
                        refine lv_iload hx hb dX9_rises_244 (lv_at hl 2 rfl) ?_
                        refine lv_istore (lv' := [(4, .int y4_200), (7, .int (nI i)), (5, .long y5_200), (3, .int x), (0, .ref m0), (1, .int (nI a_1)), (2, .int (nI b_2))]) hx hb dX9_rises_246 hl (by decide) rfl (fun ls hl => ?_)
                        refine lv_ldc2 (v := 1000000000) hx hb hown (hts (.constantLong RX9 210 (1000000000)) (by decide +kernel)) dX9_rises_248 ?_
                        refine lv_lload hx hb dX9_rises_251 (lv_at hl 2 rfl) ?_
                        refine lv_aload_n hx hb dX9_rises_253 rfl (lv_at hl 4 rfl) ?_
                        refine va_get (ci := 9) (v := .ref a_risenWays) (C := RX9) (T := TX9) (N := 24) hx hb hts hi9 hown hK hP 0 rfl rfl 23 (by decide) fl85 (fun _ h9 => h9) rfl dX9_rises_254 ?_
                        refine lv_iload hx hb dX9_rises_257 (lv_at hl 1 rfl) ?_
                        refine va_lald hx hb hK hP 3 1 rfl rfl (vp_in_nI (by omega) (by omega)) dX9_rises_259 ?_
                        refine my_eql (y := a_risenWays_21 i) (congrArg a_risenWays_21 (nI_clamp (by omega))) ?_
                        refine lv_ladd hx hb dX9_rises_260 ?_
                        refine lv_topl (fun z_21 ez_21 => ?_)
                        refine va_mmin_long hx hb (hml.trans hl.1.symm) hown (hts (.methodLink RX9 212 Lib.MathLoose.min_long.x) (by decide +kernel)) (hts (.static Lib.MathLoose.min_long.x) (by decide +kernel)) (hts (.initialized "java/lang/Math") (by decide +kernel)) (hts (.code Lib.MathLoose.min_long.x Lib.MathLoose.min_long.code 4 (some .long)) (by decide +kernel)) (Nat.le_of_ble_eq_true rfl) (Nat.le_of_ble_eq_true rfl) (Nat.le_of_ble_eq_true rfl) (Nat.le_of_ble_eq_true rfl) dX9_rises_261 ?_
                        refine lv_topl (fun z_22 ez_22 => ?_)
                        refine lv_lstore (lv' := [(5, .long z_22), (4, .int y4_200), (7, .int (nI i)), (3, .int x), (0, .ref m0), (1, .int (nI a_1)), (2, .int (nI b_2))]) hx hb dX9_rises_264 hl (by decide) rfl (fun ls hl => ?_)
                        refine lv_iinc (v := nI (i + 1)) (lv' := [(7, .int (nI (i + 1))), (5, .long z_22), (4, .int y4_200), (3, .int x), (0, .ref m0), (1, .int (nI a_1)), (2, .int (nI b_2))]) hx hb dX9_rises_266 hl (k := 2) rfl (my_incN i 1 (by decide +kernel)) (by decide) rfl (fun ls hl => ?_)
                        refine lv_goto (tgt := 200) hx hb dX9_rises_269 (by decide) ?_
                        exact ih200  (i + 1) z_22 y4_200 (by omega) (by first | assumption | omega | decide +kernel) _ _ ls hP hD hS (lv_sub hl [0, 1, 2, 3, 4, 5, 6] rfl)
                      ·
                        have d231 : (mn i).toInt < y4_200.toInt := my_nge c231 rfl rfl
                        refine lv_aload_n hx hb dX9_rises_234 rfl (lv_at hl 4 rfl) ?_
                        refine va_get (ci := 9) (v := .ref a_number) (C := RX9) (T := TX9) (N := 24) hx hb hts hi9 hown hK hP 0 rfl rfl 8 (by decide) fl49 (fun _ h9 => h9) rfl dX9_rises_235 ?_
                        refine lv_iload hx hb dX9_rises_238 (lv_at hl 0 rfl) ?_
                        refine va_iald hx hb hK hP 1 0 rfl rfl (vp_in_nI (by omega) (by omega)) dX9_rises_240 ?_
                        refine my_eqi (y := mn i) (congrArg mn (nI_clamp (by omega))) ?_
                        have hb_23 := hR_mn i
                        refine lv_goto (tgt := 246) hx hb dX9_rises_241 (by decide) ?_
                        refine lv_istore (lv' := [(4, .int (mn i)), (7, .int (nI i)), (5, .long y5_200), (3, .int x), (0, .ref m0), (1, .int (nI a_1)), (2, .int (nI b_2))]) hx hb dX9_rises_246 hl (by decide) rfl (fun ls hl => ?_)
                        refine lv_ldc2 (v := 1000000000) hx hb hown (hts (.constantLong RX9 210 (1000000000)) (by decide +kernel)) dX9_rises_248 ?_
                        refine lv_lload hx hb dX9_rises_251 (lv_at hl 2 rfl) ?_
                        refine lv_aload_n hx hb dX9_rises_253 rfl (lv_at hl 4 rfl) ?_
                        refine va_get (ci := 9) (v := .ref a_risenWays) (C := RX9) (T := TX9) (N := 24) hx hb hts hi9 hown hK hP 0 rfl rfl 23 (by decide) fl85 (fun _ h9 => h9) rfl dX9_rises_254 ?_
                        refine lv_iload hx hb dX9_rises_257 (lv_at hl 1 rfl) ?_
                        refine va_lald hx hb hK hP 3 1 rfl rfl (vp_in_nI (by omega) (by omega)) dX9_rises_259 ?_
                        refine my_eql (y := a_risenWays_21 i) (congrArg a_risenWays_21 (nI_clamp (by omega))) ?_
                        refine lv_ladd hx hb dX9_rises_260 ?_
                        refine lv_topl (fun z_25 ez_25 => ?_)
                        refine va_mmin_long hx hb (hml.trans hl.1.symm) hown (hts (.methodLink RX9 212 Lib.MathLoose.min_long.x) (by decide +kernel)) (hts (.static Lib.MathLoose.min_long.x) (by decide +kernel)) (hts (.initialized "java/lang/Math") (by decide +kernel)) (hts (.code Lib.MathLoose.min_long.x Lib.MathLoose.min_long.code 4 (some .long)) (by decide +kernel)) (Nat.le_of_ble_eq_true rfl) (Nat.le_of_ble_eq_true rfl) (Nat.le_of_ble_eq_true rfl) (Nat.le_of_ble_eq_true rfl) dX9_rises_261 ?_
                        refine lv_topl (fun z_26 ez_26 => ?_)
                        refine lv_lstore (lv' := [(5, .long z_26), (4, .int (mn i)), (7, .int (nI i)), (3, .int x), (0, .ref m0), (1, .int (nI a_1)), (2, .int (nI b_2))]) hx hb dX9_rises_264 hl (by decide) rfl (fun ls hl => ?_)
                        refine lv_iinc (v := nI (i + 1)) (lv' := [(7, .int (nI (i + 1))), (5, .long z_26), (4, .int (mn i)), (3, .int x), (0, .ref m0), (1, .int (nI a_1)), (2, .int (nI b_2))]) hx hb dX9_rises_266 hl (k := 2) rfl (my_incN i 1 (by decide +kernel)) (by decide) rfl (fun ls hl => ?_)
                        refine lv_goto (tgt := 200) hx hb dX9_rises_269 (by decide) ?_
                        exact ih200  (i + 1) z_26 (mn i) (by omega) (by first | assumption | omega | decide +kernel) _ _ ls hP hD hS (lv_sub hl [0, 1, 2, 3, 4, 5, 6] rfl)
            have ec_27 : (0 : Int64).toInt = 0 := by decide +kernel
            have ec_28 : (-1 : Int32).toInt = -1 := by decide +kernel
            exact loop200 ((64 - a_1) + 1) a_1 (0 : Int64) (-1 : Int32) (Nat.lt_succ_self _) (by first | assumption | omega | decide +kernel) _ _ ls hP hD hS (lv_sub hl [0, 1, 2, 3, 4, 5, 6] rfl)
          ·
            have d24 : ((k : Nat) : Int) < ((b_2 : Nat) : Int) := my_nge c24 (nI_toInt (by omega)) (nI_toInt (by omega))
            refine lv_aload_n hx hb dX9_rises_27 rfl (lv_at hl 2 rfl) ?_
            refine va_get (ci := 9) (v := .ref a_risen) (C := RX9) (T := TX9) (N := 24) hx hb hts hi9 hown hK hP 0 rfl rfl 22 (by decide) fl82 (fun _ h9 => h9) rfl dX9_rises_28 ?_
            refine lv_iload hx hb dX9_rises_31 (lv_at hl 0 rfl) ?_
            refine lv_iconst (v := 1) hx hb dX9_rises_33 (by decide +kernel) ?_
            refine va_iast hx hb hK hP hD hS 2 0 rfl rfl (vp_in_nI (by omega) (by omega)) dX9_rises_34 (fun H locs hP hD hS => ?_)
            obtain ⟨g_29, eg_29⟩ : ∃ g : Nat → Int32, g = upd a_risen_21 k 1 := ⟨_, rfl⟩
            have eU : upd a_risen_21 (nI k : Int32).toNatClampNeg 1 = g_29 := by rw [eg_29, show (nI k : Int32).toNatClampNeg = k from nI_clamp (by omega)]
            rw [eU] at hP hD
            have hP : va_P D vwCl (wl_k_X9_rises cI cJ cK m0 a_row a_tape a_number a_read a_readBits a_stands a_parted a_bitsWere a_stood a_chosen a_bestChosen a_often a_sorted a_risen a_risenWays 0 (nI m_told) (nI m_taped) (nI m_at) (nI m_to) (nI m_many) (nI m_readMany) m_fewest (nI m_size) mn g_29 a_risenWays_21 mr) H := hP
            have hD : va_D A (wl_k_X9_rises cI cJ cK m0 a_row a_tape a_number a_read a_readBits a_stands a_parted a_bitsWere a_stood a_chosen a_bestChosen a_often a_sorted a_risen a_risenWays 0 (nI m_told) (nI m_taped) (nI m_at) (nI m_to) (nI m_many) (nI m_readMany) m_fewest (nI m_size) mn g_29 a_risenWays_21 mr) := hD
            refine lv_aload_n hx hb dX9_rises_35 rfl (lv_at hl 2 rfl) ?_
            refine va_get (ci := 9) (v := .ref a_risenWays) (C := RX9) (T := TX9) (N := 24) hx hb hts hi9 hown hK hP 0 rfl rfl 23 (by decide) fl85 (fun _ h9 => h9) rfl dX9_rises_36 ?_
            refine lv_iload hx hb dX9_rises_39 (lv_at hl 0 rfl) ?_
            refine lv_lconst (v := 1) hx hb dX9_rises_41 (by decide +kernel) ?_
            refine va_last hx hb hK hP hD hS 3 1 rfl rfl (vp_in_nI (by omega) (by omega)) dX9_rises_42 (fun H locs hP hD hS => ?_)
            obtain ⟨g_30, eg_30⟩ : ∃ g : Nat → Int64, g = vp_updL a_risenWays_21 k 1 := ⟨_, rfl⟩
            have eU : vp_updL a_risenWays_21 (nI k : Int32).toNatClampNeg 1 = g_30 := by rw [eg_30, show (nI k : Int32).toNatClampNeg = k from nI_clamp (by omega)]
            rw [eU] at hP hD
            have hP : va_P D vwCl (wl_k_X9_rises cI cJ cK m0 a_row a_tape a_number a_read a_readBits a_stands a_parted a_bitsWere a_stood a_chosen a_bestChosen a_often a_sorted a_risen a_risenWays 0 (nI m_told) (nI m_taped) (nI m_at) (nI m_to) (nI m_many) (nI m_readMany) m_fewest (nI m_size) mn g_29 g_30 mr) H := hP
            have hD : va_D A (wl_k_X9_rises cI cJ cK m0 a_row a_tape a_number a_read a_readBits a_stands a_parted a_bitsWere a_stood a_chosen a_bestChosen a_often a_sorted a_risen a_risenWays 0 (nI m_told) (nI m_taped) (nI m_at) (nI m_to) (nI m_many) (nI m_readMany) m_fewest (nI m_size) mn g_29 g_30 mr) := hD
            refine lv_iload_n hx hb dX9_rises_43 rfl (lv_at hl 3 rfl) ?_
            refine lv_istore (lv' := [(5, .int (nI a_1)), (4, .int (nI k)), (3, .int x), (0, .ref m0), (1, .int (nI a_1)), (2, .int (nI b_2))]) hx hb dX9_rises_44 hl (by decide) rfl (fun ls hl => ?_)
            have loop46 : ∀ (n9 : Nat) (j : Nat) (a_risen_46 : Nat → Int32) (a_risenWays_46 : Nat → Int64), 64 - j < n9 → (j ≤ 64) → (a_1 ≤ j) → (j ≤ k) → (a_risen_46 k = nI (rf (LSq mn a_1) mn a_1 k j)) → (∀ q, a_1 ≤ q → q < k → a_risen_46 q = nI (LSq mn a_1 q)) → ∀ (H : Heap) (locs : List Loc) (ls : Array Slot), va_P D vwCl (wl_k_X9_rises cI cJ cK m0 a_row a_tape a_number a_read a_readBits a_stands a_parted a_bitsWere a_stood a_chosen a_bestChosen a_often a_sorted a_risen a_risenWays 0 (nI m_told) (nI m_taped) (nI m_at) (nI m_to) (nI m_many) (nI m_readMany) m_fewest (nI m_size) mn a_risen_46 a_risenWays_46 mr) H → va_D A (wl_k_X9_rises cI cJ cK m0 a_row a_tape a_number a_read a_readBits a_stands a_parted a_bitsWere a_stood a_chosen a_bestChosen a_often a_sorted a_risen a_risenWays 0 (nI m_told) (nI m_taped) (nI m_at) (nI m_to) (nI m_many) (nI m_readMany) m_fewest (nI m_size) mn a_risen_46 a_risenWays_46 mr) → va_S A s.heap H locs → lv_has ls 8 [(5, .int (nI j)), (4, .int (nI k)), (3, .int x), (0, .ref m0), (1, .int (nI a_1)), (2, .int (nI b_2))] → W p l e ({ frames := 1, cells := 0, slots := 0, locals := 60 } : Room) s m [.ref m0, .int (nI a_1), .int (nI b_2)].toArray below meth c H locs 0 0 (MQ below (va_Qi (fun (r : Int32) (u : va_W) => (∃ (m_thrown' : Int32), u = (wl_k_X9_rises cI cJ cK m0 a_row a_tape a_number a_read a_readBits a_stands a_parted a_bitsWere a_stood a_chosen a_bestChosen a_often a_sorted a_risen a_risenWays m_thrown' (nI m_told) (nI m_taped) (nI m_at) (nI m_to) (nI m_many) (nI m_readMany) m_fewest (nI m_size) mn mi mj mr) ∧ r = (-1) ∧ ((nI a_1).toInt < 0 ∨ (nI b_2).toInt < (nI a_1).toInt ∨ m_many < (nI b_2).toInt)) ∨ (∃ (m_thrown' : Int32) (m_told' : Nat) (mi' : Nat → Int32) (mj' : Nat → Int64) (mr' : Nat → Int64), u = (wl_k_X9_rises cI cJ cK m0 a_row a_tape a_number a_read a_readBits a_stands a_parted a_bitsWere a_stood a_chosen a_bestChosen a_often a_sorted a_risen a_risenWays m_thrown' (nI m_told') (nI m_taped) (nI m_at) (nI m_to) (nI m_many) (nI m_readMany) m_fewest (nI m_size) mn mi' mj' mr') ∧ m_told' ≤ 64 ∧ 0 ≤ (nI a_1).toInt ∧ (nI a_1).toInt ≤ (nI b_2).toInt ∧ (nI b_2).toInt ≤ m_many ∧ r.toInt = ((lmF mn (nI a_1).toInt.toNat (nI b_2).toInt.toNat : Nat) : Int) ∧ True ∧ m_told' = 2)) (my_B D (tyIJ cI cJ cK) A) A) [.ref m0, .int (nI a_1), .int (nI b_2)].toArray s 0 0 A) (F0 m 46 ls []) := by
              intro n9
              induction n9 with
              | zero =>
                intro j a_risen_46 a_risenWays_46 hn9
                exact absurd hn9 (Nat.not_lt_zero _)
              | succ n9 ih46 =>
                intro j a_risen_46 a_risenWays_46 hn9 hk_j haj hjk hck hjs H locs ls hP hD hS hl
                have hrl := rf_LSle (f := mn) (a := a_1) (p := k) j
                have hll := LS_le (f := mn) (a := a_1) j
                have hcv : (a_risen_46 k).toInt = ((rf (LSq mn a_1) mn a_1 k j : Nat) : Int) := by rw [hck]; exact nI_toInt (by omega)
                have hjv : j < k → (a_risen_46 j).toInt = ((LSq mn a_1 j : Nat) : Int) := fun h9 => by rw [hjs j haj h9]; exact nI_toInt (by omega)
                refine lv_iload hx hb dX9_rises_46 (lv_at hl 0 rfl) ?_
                refine lv_iload hx hb dX9_rises_48 (lv_at hl 1 rfl) ?_
                refine lv_icmp_ge (tgt := 173) hx hb dX9_rises_50 (by decide) (fun c50 => ?_) (fun c50 => ?_)
                ·
                  have d50 : ((j : Nat) : Int) ≥ ((k : Nat) : Int) := my_ge c50 (nI_toInt (by omega)) (nI_toInt (by omega))
                  have hck9 : a_risen_46 k = nI (LSq mn a_1 k) := by rw [hck, show j = k from (by omega), ← LS_eq]
                  have hls9 := LS_le (f := mn) (a := a_1) k
                  have hcv9 : (a_risen_46 k).toInt = ((LSq mn a_1 k : Nat) : Int) := by rw [hck9]; exact nI_toInt (by omega)
                  have hle9 : LSq mn a_1 k = LSq mn a_1 k := rfl
                  refine lv_iload_n hx hb dX9_rises_173 rfl (lv_at hl 2 rfl) ?_
                  refine lv_aload_n hx hb dX9_rises_174 rfl (lv_at hl 3 rfl) ?_
                  refine va_get (ci := 9) (v := .ref a_risen) (C := RX9) (T := TX9) (N := 24) hx hb hts hi9 hown hK hP 0 rfl rfl 22 (by decide) fl82 (fun _ h9 => h9) rfl dX9_rises_175 ?_
                  refine lv_iload hx hb dX9_rises_178 (lv_at hl 1 rfl) ?_
                  refine va_iald hx hb hK hP 2 0 rfl rfl (vp_in_nI (by omega) (by omega)) dX9_rises_180 ?_
                  refine my_eqi (y := a_risen_46 k) (congrArg a_risen_46 (nI_clamp (by omega))) ?_
                  refine va_mmax hx hb (hml.trans hl.1.symm) hown (hts (.methodLink RX9 181 Lib.Math.max.name) (by decide +kernel)) (hts (.static Lib.Math.max.name) (by decide +kernel)) (hts (.initialized "java/lang/Math") (by decide +kernel)) (hts (.code Lib.Math.max.name Lib.Math.max.code 2 (some .int)) (by decide +kernel)) (Nat.le_of_ble_eq_true rfl) (Nat.le_of_ble_eq_true rfl) (Nat.le_of_ble_eq_true rfl) (Nat.le_of_ble_eq_true rfl) dX9_rises_181 ?_
                  refine lv_topi (fun z_32 ez_32 => ?_)
                  have tz_32 := my_maxI (a := x.toInt) (b := (a_risen_46 k).toInt) ez_32 rfl rfl
                  refine lv_istore_n (lv' := [(3, .int z_32), (5, .int (nI j)), (4, .int (nI k)), (0, .ref m0), (1, .int (nI a_1)), (2, .int (nI b_2))]) hx hb dX9_rises_184 rfl hl (by decide) rfl (fun ls hl => ?_)
                  refine lv_iinc (v := nI (k + 1)) (lv' := [(4, .int (nI (k + 1))), (3, .int z_32), (5, .int (nI j)), (0, .ref m0), (1, .int (nI a_1)), (2, .int (nI b_2))]) hx hb dX9_rises_185 hl (k := 2) rfl (my_incN k 1 (by decide +kernel)) (by decide) rfl (fun ls hl => ?_)
                  refine lv_goto (tgt := 21) hx hb dX9_rises_188 (by decide) ?_
                  exact ih21  (k + 1) z_32 a_risen_46 a_risenWays_46 (by omega) (by first | assumption | omega | decide +kernel) (by first | assumption | omega | decide +kernel) (by first | assumption | omega | decide +kernel) (by first | assumption | omega | decide +kernel) (by first | assumption | omega | decide +kernel) (lm_s hlm (by omega) hle9 (by omega)) (fun q h1 h2 => by by_cases e9 : q = k; (rw [e9]; exact hck9); (exact hjs q h1 (by omega))) _ _ ls hP hD hS (lv_sub hl [0, 1, 3, 4, 5] rfl)
                ·
                  have d50 : ((j : Nat) : Int) < ((k : Nat) : Int) := my_nge c50 (nI_toInt (by omega)) (nI_toInt (by omega))
                  refine lv_aload_n hx hb dX9_rises_53 rfl (lv_at hl 3 rfl) ?_
                  refine va_get (ci := 9) (v := .ref a_number) (C := RX9) (T := TX9) (N := 24) hx hb hts hi9 hown hK hP 0 rfl rfl 8 (by decide) fl49 (fun _ h9 => h9) rfl dX9_rises_54 ?_
                  refine lv_iload hx hb dX9_rises_57 (lv_at hl 0 rfl) ?_
                  refine va_iald hx hb hK hP 1 0 rfl rfl (vp_in_nI (by omega) (by omega)) dX9_rises_59 ?_
                  refine my_eqi (y := mn j) (congrArg mn (nI_clamp (by omega))) ?_
                  have hb_33 := hR_mn j
                  refine lv_aload_n hx hb dX9_rises_60 rfl (lv_at hl 3 rfl) ?_
                  refine va_get (ci := 9) (v := .ref a_number) (C := RX9) (T := TX9) (N := 24) hx hb hts hi9 hown hK hP 0 rfl rfl 8 (by decide) fl49 (fun _ h9 => h9) rfl dX9_rises_61 ?_
                  refine lv_iload hx hb dX9_rises_64 (lv_at hl 1 rfl) ?_
                  refine va_iald hx hb hK hP 1 0 rfl rfl (vp_in_nI (by omega) (by omega)) dX9_rises_66 ?_
                  refine my_eqi (y := mn k) (congrArg mn (nI_clamp (by omega))) ?_
                  have hb_34 := hR_mn k
                  refine lv_icmp_ge (tgt := 167) hx hb dX9_rises_67 (by decide) (fun c67 => ?_) (fun c67 => ?_)
                  ·
                    have d67 : (mn j).toInt ≥ (mn k).toInt := my_ge c67 rfl rfl
                    refine lv_iinc (v := nI (j + 1)) (lv' := [(5, .int (nI (j + 1))), (4, .int (nI k)), (3, .int x), (0, .ref m0), (1, .int (nI a_1)), (2, .int (nI b_2))]) hx hb dX9_rises_167 hl (k := 0) rfl (my_incN j 1 (by decide +kernel)) (by decide) rfl (fun ls hl => ?_)
                    refine lv_goto (tgt := 46) hx hb dX9_rises_170 (by decide) ?_
                    exact ih46  (j + 1) a_risen_46 a_risenWays_46 (by omega) (by first | assumption | omega | decide +kernel) (by first | assumption | omega | decide +kernel) (by first | assumption | omega | decide +kernel) (by first | exact ri_y (by assumption) (my_eqI (a := ((LSq mn a_1 j + 1 : Nat) : Int)) (by omega) (nI_toInt (by omega))) (rf_y (t := rf (LSq mn a_1) mn a_1 k j) rfl haj (by omega) (by omega)) | (rw [← rf_n (t := rf (LSq mn a_1) mn a_1 k j) rfl (by omega)]; exact hck)) (fun q h1 h2 => by first | exact hjs q h1 h2 | exact ri_o (by assumption) (by omega) (hjs q h1 h2)) _ _ ls hP hD hS (lv_sub hl [0, 1, 2, 3, 4, 5] rfl)
                  ·
                    have d67 : (mn j).toInt < (mn k).toInt := my_nge c67 rfl rfl
                    have hj9 := hjv (by omega)
                    refine lv_aload_n hx hb dX9_rises_70 rfl (lv_at hl 3 rfl) ?_
                    refine va_get (ci := 9) (v := .ref a_risen) (C := RX9) (T := TX9) (N := 24) hx hb hts hi9 hown hK hP 0 rfl rfl 22 (by decide) fl82 (fun _ h9 => h9) rfl dX9_rises_71 ?_
                    refine lv_iload hx hb dX9_rises_74 (lv_at hl 0 rfl) ?_
                    refine va_iald hx hb hK hP 2 0 rfl rfl (vp_in_nI (by omega) (by omega)) dX9_rises_76 ?_
                    refine my_eqi (y := a_risen_46 j) (congrArg a_risen_46 (nI_clamp (by omega))) ?_
                    refine lv_aload_n hx hb dX9_rises_77 rfl (lv_at hl 3 rfl) ?_
                    refine va_get (ci := 9) (v := .ref a_risen) (C := RX9) (T := TX9) (N := 24) hx hb hts hi9 hown hK hP 0 rfl rfl 22 (by decide) fl82 (fun _ h9 => h9) rfl dX9_rises_78 ?_
                    refine lv_iload hx hb dX9_rises_81 (lv_at hl 1 rfl) ?_
                    refine va_iald hx hb hK hP 2 0 rfl rfl (vp_in_nI (by omega) (by omega)) dX9_rises_83 ?_
                    refine my_eqi (y := a_risen_46 k) (congrArg a_risen_46 (nI_clamp (by omega))) ?_
                    refine lv_icmp_lt (tgt := 120) hx hb dX9_rises_84 (by decide) (fun c84 => ?_) (fun c84 => ?_)
                    ·
                      have d84 : (a_risen_46 j).toInt < (a_risen_46 k).toInt := my_lt c84 rfl rfl
                      refine lv_aload_n hx hb dX9_rises_120 rfl (lv_at hl 3 rfl) ?_
                      refine va_get (ci := 9) (v := .ref a_risen) (C := RX9) (T := TX9) (N := 24) hx hb hts hi9 hown hK hP 0 rfl rfl 22 (by decide) fl82 (fun _ h9 => h9) rfl dX9_rises_121 ?_
                      refine lv_iload hx hb dX9_rises_124 (lv_at hl 0 rfl) ?_
                      refine va_iald hx hb hK hP 2 0 rfl rfl (vp_in_nI (by omega) (by omega)) dX9_rises_126 ?_
                      refine my_eqi (y := a_risen_46 j) (congrArg a_risen_46 (nI_clamp (by omega))) ?_
                      refine lv_iconst (v := 1) hx hb dX9_rises_127 (by decide +kernel) ?_
                      refine lv_iadd hx hb dX9_rises_128 ?_
                      refine lv_topi (fun z_38 ez_38 => ?_)
                      try have tz_38 : z_38.toInt = (a_risen_46 j).toInt + (1 : Int) := by rw [ez_38]; exact my_addI rfl (by decide +kernel) (by omega) (by omega)
                      refine lv_aload_n hx hb dX9_rises_129 rfl (lv_at hl 3 rfl) ?_
                      refine va_get (ci := 9) (v := .ref a_risen) (C := RX9) (T := TX9) (N := 24) hx hb hts hi9 hown hK hP 0 rfl rfl 22 (by decide) fl82 (fun _ h9 => h9) rfl dX9_rises_130 ?_
                      refine lv_iload hx hb dX9_rises_133 (lv_at hl 1 rfl) ?_
                      refine va_iald hx hb hK hP 2 0 rfl rfl (vp_in_nI (by omega) (by omega)) dX9_rises_135 ?_
                      refine my_eqi (y := a_risen_46 k) (congrArg a_risen_46 (nI_clamp (by omega))) ?_
                      refine lv_icmp_ne (tgt := 167) hx hb dX9_rises_136 (by decide) (fun c136 => ?_) (fun c136 => ?_)
                      ·
                        have d136 : z_38.toInt ≠ (a_risen_46 k).toInt := my_ne c136 rfl rfl
                        refine lv_iinc (v := nI (j + 1)) (lv' := [(5, .int (nI (j + 1))), (4, .int (nI k)), (3, .int x), (0, .ref m0), (1, .int (nI a_1)), (2, .int (nI b_2))]) hx hb dX9_rises_167 hl (k := 0) rfl (my_incN j 1 (by decide +kernel)) (by decide) rfl (fun ls hl => ?_)
                        refine lv_goto (tgt := 46) hx hb dX9_rises_170 (by decide) ?_
                        exact ih46  (j + 1) a_risen_46 a_risenWays_46 (by omega) (by first | assumption | omega | decide +kernel) (by first | assumption | omega | decide +kernel) (by first | assumption | omega | decide +kernel) (by first | exact ri_y (by assumption) (my_eqI (a := ((LSq mn a_1 j + 1 : Nat) : Int)) (by omega) (nI_toInt (by omega))) (rf_y (t := rf (LSq mn a_1) mn a_1 k j) rfl haj (by omega) (by omega)) | (rw [← rf_n (t := rf (LSq mn a_1) mn a_1 k j) rfl (by omega)]; exact hck)) (fun q h1 h2 => by first | exact hjs q h1 h2 | exact ri_o (by assumption) (by omega) (hjs q h1 h2)) _ _ ls hP hD hS (lv_sub hl [0, 1, 2, 3, 4, 5] rfl)
                      ·
                        have d136 : z_38.toInt = (a_risen_46 k).toInt := my_eq c136 rfl rfl
                        refine lv_aload_n hx hb dX9_rises_139 rfl (lv_at hl 3 rfl) ?_
                        refine va_get (ci := 9) (v := .ref a_risenWays) (C := RX9) (T := TX9) (N := 24) hx hb hts hi9 hown hK hP 0 rfl rfl 23 (by decide) fl85 (fun _ h9 => h9) rfl dX9_rises_140 ?_
                        refine lv_iload hx hb dX9_rises_143 (lv_at hl 1 rfl) ?_
                        refine lv_ldc2 (v := 1000000000) hx hb hown (hts (.constantLong RX9 210 (1000000000)) (by decide +kernel)) dX9_rises_145 ?_
                        refine lv_aload_n hx hb dX9_rises_148 rfl (lv_at hl 3 rfl) ?_
                        refine va_get (ci := 9) (v := .ref a_risenWays) (C := RX9) (T := TX9) (N := 24) hx hb hts hi9 hown hK hP 0 rfl rfl 23 (by decide) fl85 (fun _ h9 => h9) rfl dX9_rises_149 ?_
                        refine lv_iload hx hb dX9_rises_152 (lv_at hl 1 rfl) ?_
                        refine va_lald hx hb hK hP 3 1 rfl rfl (vp_in_nI (by omega) (by omega)) dX9_rises_154 ?_
                        refine my_eql (y := a_risenWays_46 k) (congrArg a_risenWays_46 (nI_clamp (by omega))) ?_
                        refine lv_aload_n hx hb dX9_rises_155 rfl (lv_at hl 3 rfl) ?_
                        refine va_get (ci := 9) (v := .ref a_risenWays) (C := RX9) (T := TX9) (N := 24) hx hb hts hi9 hown hK hP 0 rfl rfl 23 (by decide) fl85 (fun _ h9 => h9) rfl dX9_rises_156 ?_
                        refine lv_iload hx hb dX9_rises_159 (lv_at hl 0 rfl) ?_
                        refine va_lald hx hb hK hP 3 1 rfl rfl (vp_in_nI (by omega) (by omega)) dX9_rises_161 ?_
                        refine my_eql (y := a_risenWays_46 j) (congrArg a_risenWays_46 (nI_clamp (by omega))) ?_
                        refine lv_ladd hx hb dX9_rises_162 ?_
                        refine lv_topl (fun z_42 ez_42 => ?_)
                        refine va_mmin_long hx hb (hml.trans hl.1.symm) hown (hts (.methodLink RX9 212 Lib.MathLoose.min_long.x) (by decide +kernel)) (hts (.static Lib.MathLoose.min_long.x) (by decide +kernel)) (hts (.initialized "java/lang/Math") (by decide +kernel)) (hts (.code Lib.MathLoose.min_long.x Lib.MathLoose.min_long.code 4 (some .long)) (by decide +kernel)) (Nat.le_of_ble_eq_true rfl) (Nat.le_of_ble_eq_true rfl) (Nat.le_of_ble_eq_true rfl) (Nat.le_of_ble_eq_true rfl) dX9_rises_163 ?_
                        refine lv_topl (fun z_43 ez_43 => ?_)
                        refine va_last hx hb hK hP hD hS 3 1 rfl rfl (vp_in_nI (by omega) (by omega)) dX9_rises_166 (fun H locs hP hD hS => ?_)
                        obtain ⟨g_44, eg_44⟩ : ∃ g : Nat → Int64, g = vp_updL a_risenWays_46 k z_43 := ⟨_, rfl⟩
                        have eU : vp_updL a_risenWays_46 (nI k : Int32).toNatClampNeg z_43 = g_44 := by rw [eg_44, show (nI k : Int32).toNatClampNeg = k from nI_clamp (by omega)]
                        rw [eU] at hP hD
                        have hP : va_P D vwCl (wl_k_X9_rises cI cJ cK m0 a_row a_tape a_number a_read a_readBits a_stands a_parted a_bitsWere a_stood a_chosen a_bestChosen a_often a_sorted a_risen a_risenWays 0 (nI m_told) (nI m_taped) (nI m_at) (nI m_to) (nI m_many) (nI m_readMany) m_fewest (nI m_size) mn a_risen_46 g_44 mr) H := hP
                        have hD : va_D A (wl_k_X9_rises cI cJ cK m0 a_row a_tape a_number a_read a_readBits a_stands a_parted a_bitsWere a_stood a_chosen a_bestChosen a_often a_sorted a_risen a_risenWays 0 (nI m_told) (nI m_taped) (nI m_at) (nI m_to) (nI m_many) (nI m_readMany) m_fewest (nI m_size) mn a_risen_46 g_44 mr) := hD
                        refine lv_iinc (v := nI (j + 1)) (lv' := [(5, .int (nI (j + 1))), (4, .int (nI k)), (3, .int x), (0, .ref m0), (1, .int (nI a_1)), (2, .int (nI b_2))]) hx hb dX9_rises_167 hl (k := 0) rfl (my_incN j 1 (by decide +kernel)) (by decide) rfl (fun ls hl => ?_)
                        refine lv_goto (tgt := 46) hx hb dX9_rises_170 (by decide) ?_
                        exact ih46  (j + 1) a_risen_46 g_44 (by omega) (by first | assumption | omega | decide +kernel) (by first | assumption | omega | decide +kernel) (by first | assumption | omega | decide +kernel) (by first | exact ri_y (by assumption) (my_eqI (a := ((LSq mn a_1 j + 1 : Nat) : Int)) (by omega) (nI_toInt (by omega))) (rf_y (t := rf (LSq mn a_1) mn a_1 k j) rfl haj (by omega) (by omega)) | (rw [← rf_n (t := rf (LSq mn a_1) mn a_1 k j) rfl (by omega)]; exact hck)) (fun q h1 h2 => by first | exact hjs q h1 h2 | exact ri_o (by assumption) (by omega) (hjs q h1 h2)) _ _ ls hP hD hS (lv_sub hl [0, 1, 2, 3, 4, 5] rfl)
                    ·
                      have d84 : (a_risen_46 j).toInt ≥ (a_risen_46 k).toInt := my_nlt c84 rfl rfl
                      refine lv_aload_n hx hb dX9_rises_87 rfl (lv_at hl 3 rfl) ?_
                      refine va_get (ci := 9) (v := .ref a_risen) (C := RX9) (T := TX9) (N := 24) hx hb hts hi9 hown hK hP 0 rfl rfl 22 (by decide) fl82 (fun _ h9 => h9) rfl dX9_rises_88 ?_
                      refine lv_iload hx hb dX9_rises_91 (lv_at hl 1 rfl) ?_
                      refine lv_aload_n hx hb dX9_rises_93 rfl (lv_at hl 3 rfl) ?_
                      refine va_get (ci := 9) (v := .ref a_risen) (C := RX9) (T := TX9) (N := 24) hx hb hts hi9 hown hK hP 0 rfl rfl 22 (by decide) fl82 (fun _ h9 => h9) rfl dX9_rises_94 ?_
                      refine lv_iload hx hb dX9_rises_97 (lv_at hl 0 rfl) ?_
                      refine va_iald hx hb hK hP 2 0 rfl rfl (vp_in_nI (by omega) (by omega)) dX9_rises_99 ?_
                      refine my_eqi (y := a_risen_46 j) (congrArg a_risen_46 (nI_clamp (by omega))) ?_
                      refine lv_iconst (v := 1) hx hb dX9_rises_100 (by decide +kernel) ?_
                      have hj9 := hjv (by omega)
                      refine lv_iadd hx hb dX9_rises_101 ?_
                      refine lv_topi (fun z_46 ez_46 => ?_)
                      try have tz_46 : z_46.toInt = (a_risen_46 j).toInt + (1 : Int) := by rw [ez_46]; exact my_addI rfl (by decide +kernel) (by omega) (by omega)
                      refine va_iast hx hb hK hP hD hS 2 0 rfl rfl (vp_in_nI (by omega) (by omega)) dX9_rises_102 (fun H locs hP hD hS => ?_)
                      obtain ⟨g_47, eg_47⟩ : ∃ g : Nat → Int32, g = upd a_risen_46 k z_46 := ⟨_, rfl⟩
                      have eU : upd a_risen_46 (nI k : Int32).toNatClampNeg z_46 = g_47 := by rw [eg_47, show (nI k : Int32).toNatClampNeg = k from nI_clamp (by omega)]
                      rw [eU] at hP hD
                      have hP : va_P D vwCl (wl_k_X9_rises cI cJ cK m0 a_row a_tape a_number a_read a_readBits a_stands a_parted a_bitsWere a_stood a_chosen a_bestChosen a_often a_sorted a_risen a_risenWays 0 (nI m_told) (nI m_taped) (nI m_at) (nI m_to) (nI m_many) (nI m_readMany) m_fewest (nI m_size) mn g_47 a_risenWays_46 mr) H := hP
                      have hD : va_D A (wl_k_X9_rises cI cJ cK m0 a_row a_tape a_number a_read a_readBits a_stands a_parted a_bitsWere a_stood a_chosen a_bestChosen a_often a_sorted a_risen a_risenWays 0 (nI m_told) (nI m_taped) (nI m_at) (nI m_to) (nI m_many) (nI m_readMany) m_fewest (nI m_size) mn g_47 a_risenWays_46 mr) := hD
                      refine lv_aload_n hx hb dX9_rises_103 rfl (lv_at hl 3 rfl) ?_
                      refine va_get (ci := 9) (v := .ref a_risenWays) (C := RX9) (T := TX9) (N := 24) hx hb hts hi9 hown hK hP 0 rfl rfl 23 (by decide) fl85 (fun _ h9 => h9) rfl dX9_rises_104 ?_
                      refine lv_iload hx hb dX9_rises_107 (lv_at hl 1 rfl) ?_
                      refine lv_aload_n hx hb dX9_rises_109 rfl (lv_at hl 3 rfl) ?_
                      refine va_get (ci := 9) (v := .ref a_risenWays) (C := RX9) (T := TX9) (N := 24) hx hb hts hi9 hown hK hP 0 rfl rfl 23 (by decide) fl85 (fun _ h9 => h9) rfl dX9_rises_110 ?_
                      refine lv_iload hx hb dX9_rises_113 (lv_at hl 0 rfl) ?_
                      refine va_lald hx hb hK hP 3 1 rfl rfl (vp_in_nI (by omega) (by omega)) dX9_rises_115 ?_
                      refine my_eql (y := a_risenWays_46 j) (congrArg a_risenWays_46 (nI_clamp (by omega))) ?_
                      refine va_last hx hb hK hP hD hS 3 1 rfl rfl (vp_in_nI (by omega) (by omega)) dX9_rises_116 (fun H locs hP hD hS => ?_)
                      obtain ⟨g_49, eg_49⟩ : ∃ g : Nat → Int64, g = vp_updL a_risenWays_46 k (a_risenWays_46 j) := ⟨_, rfl⟩
                      have eU : vp_updL a_risenWays_46 (nI k : Int32).toNatClampNeg (a_risenWays_46 j) = g_49 := by rw [eg_49, show (nI k : Int32).toNatClampNeg = k from nI_clamp (by omega)]
                      rw [eU] at hP hD
                      have hP : va_P D vwCl (wl_k_X9_rises cI cJ cK m0 a_row a_tape a_number a_read a_readBits a_stands a_parted a_bitsWere a_stood a_chosen a_bestChosen a_often a_sorted a_risen a_risenWays 0 (nI m_told) (nI m_taped) (nI m_at) (nI m_to) (nI m_many) (nI m_readMany) m_fewest (nI m_size) mn g_47 g_49 mr) H := hP
                      have hD : va_D A (wl_k_X9_rises cI cJ cK m0 a_row a_tape a_number a_read a_readBits a_stands a_parted a_bitsWere a_stood a_chosen a_bestChosen a_often a_sorted a_risen a_risenWays 0 (nI m_told) (nI m_taped) (nI m_at) (nI m_to) (nI m_many) (nI m_readMany) m_fewest (nI m_size) mn g_47 g_49 mr) := hD
                      refine lv_goto (tgt := 167) hx hb dX9_rises_117 (by decide) ?_
                      refine lv_iinc (v := nI (j + 1)) (lv' := [(5, .int (nI (j + 1))), (4, .int (nI k)), (3, .int x), (0, .ref m0), (1, .int (nI a_1)), (2, .int (nI b_2))]) hx hb dX9_rises_167 hl (k := 0) rfl (my_incN j 1 (by decide +kernel)) (by decide) rfl (fun ls hl => ?_)
                      refine lv_goto (tgt := 46) hx hb dX9_rises_170 (by decide) ?_
                      exact ih46  (j + 1) g_47 g_49 (by omega) (by first | assumption | omega | decide +kernel) (by first | assumption | omega | decide +kernel) (by first | assumption | omega | decide +kernel) (by first | exact ri_y (by assumption) (my_eqI (a := ((LSq mn a_1 j + 1 : Nat) : Int)) (by omega) (nI_toInt (by omega))) (rf_y (t := rf (LSq mn a_1) mn a_1 k j) rfl haj (by omega) (by omega)) | (rw [← rf_n (t := rf (LSq mn a_1) mn a_1 k j) rfl (by omega)]; exact hck)) (fun q h1 h2 => by first | exact hjs q h1 h2 | exact ri_o (by assumption) (by omega) (hjs q h1 h2)) _ _ ls hP hD hS (lv_sub hl [0, 1, 2, 3, 4, 5] rfl)
            exact loop46 ((64 - a_1) + 1) a_1 g_29 g_30 (Nat.lt_succ_self _) (by first | assumption | omega | decide +kernel) (by first | assumption | omega | decide +kernel) (by first | assumption | omega | decide +kernel) (by rw [rf_0 (Nat.le_refl _)]; exact ri_1 (by assumption)) (fun q h1 h2 => ri_o (by assumption) (by omega) (hls q h1 h2)) _ _ ls hP hD hS (lv_sub hl [0, 1, 2, 3, 4, 5] rfl)
      have ec_50 : (0 : Int32).toInt = 0 := by decide +kernel
      exact loop21 ((64 - a_1) + 1) a_1 (0 : Int32) mi mj (Nat.lt_succ_self _) (by first | assumption | omega | decide +kernel) (by first | assumption | omega | decide +kernel) (by first | assumption | omega | decide +kernel) (by first | assumption | omega | decide +kernel) (by first | assumption | omega | decide +kernel) (by rw [lm_0 (Nat.le_refl _)]; rfl) (fun q h1 h2 => absurd h2 (by omega)) _ _ ls hP hD hS (lv_sub hl [0, 1, 2, 3, 4] rfl)
    ·
      exact absurd c11 (by decide +kernel)
  ·
    refine lv_if_ne (tgt := 16) hx hb dX9_rises_11 (by decide) (fun c11 => ?_) (fun c11 => ?_)
    ·
      exact absurd c11 (by decide +kernel)
    ·
      refine lv_iconst (v := (-1)) hx hb dX9_rises_14 (by decide +kernel) ?_
      have ec_51 : ((-1) : Int32).toInt = -1 := by decide +kernel
      exact my_retI hx hb hr hlocks hK hS (wl_k_X9_rises cI cJ cK m0 a_row a_tape a_number a_read a_readBits a_stands a_parted a_bitsWere a_stood a_chosen a_bestChosen a_often a_sorted a_risen a_risenWays 0 (nI m_told) (nI m_taped) (nI m_at) (nI m_to) (nI m_many) (nI m_readMany) m_fewest (nI m_size) mn mi mj mr) hP hD (Or.inl ⟨0, rfl, rfl, (by first | assumption | omega | trivial | decide +kernel)⟩) dX9_rises_15
abbrev wl_k_X9_marks (cI cJ cK : ClassId) (m0 : Nat) (a_row : Nat) (a_tape : Nat) (a_number : Nat) (a_read : Nat) (a_readBits : Nat) (a_stands : Nat) (a_parted : Nat) (a_bitsWere : Nat) (a_stood : Nat) (a_chosen : Nat) (a_bestChosen : Nat) (a_often : Nat) (a_sorted : Nat) (a_risen : Nat) (a_risenWays : Nat) (v0_ : Int32) (v1_ : Int32) (v2_ : Int32) (v3_ : Int32) (v4_ : Int32) (v5_ : Int32) (v6_ : Int32) (v7_ : Int32) (v8_ : Int32) (v9_ : Nat → Int32) (v10_ : Nat → Int64) : va_W := [(m0, .inr (9, [.int v0_, .int v1_, .ref a_row, .ref a_tape, .int v2_, .int v3_, .int v4_, .int v5_, .ref a_number, .ref a_read, .int v6_, .ref a_readBits, .ref a_stands, .ref a_parted, .ref a_bitsWere, .ref a_stood, .ref a_chosen, .ref a_bestChosen, .int v7_, .ref a_often, .ref a_sorted, .int v8_, .ref a_risen, .ref a_risenWays])), (a_number, .inl (cI, 64, .inl v9_)), (a_row, .inl (cJ, 64, .inr (.inl v10_)))]
set_option maxHeartbeats 4000000 in
set_option maxRecDepth 100000 in
theorem k_X9_marks (l : Launch) (D : va_G) (cI cJ cK : ClassId) (m0 : Nat) (a_row : Nat) (a_tape : Nat) (a_number : Nat) (a_read : Nat) (a_readBits : Nat) (a_stands : Nat) (a_parted : Nat) (a_bitsWere : Nat) (a_stood : Nat) (a_chosen : Nat) (a_bestChosen : Nat) (a_often : Nat) (a_sorted : Nat) (a_risen : Nat) (a_risenWays : Nat) (m_thrown : Int32) (m_told : Nat) (m_taped : Nat) (m_at : Nat) (m_to : Nat) (m_many : Nat) (m_readMany : Nat) (m_fewest : Int32) (m_size : Nat) (mn : Nat → Int32) (mr : Nat → Int64) (l9 : Int32) (r9 : Int32) (v9 : Int32) (hz_m_told : m_told ≤ 64) (hz_m_taped : m_taped ≤ 100) (hz_m_at : m_at ≤ 100) (hz_m_to : m_to ≤ 100) (hz_m_many : m_many ≤ 64) (hz_m_readMany : m_readMany ≤ 64) (hz_m_size : m_size ≤ 64) (hR_mn : RB 0 255 mn) : ctI l yX9_marks wsX9_marks ({ frames := 2, cells := 0, slots := 0, locals := 120 } : Room) D (tyIJ cI cJ cK) [.ref m0, .int l9, .int r9, .int v9] (wl_k_X9_marks cI cJ cK m0 a_row a_tape a_number a_read a_readBits a_stands a_parted a_bitsWere a_stood a_chosen a_bestChosen a_often a_sorted a_risen a_risenWays m_thrown (nI m_told) (nI m_taped) (nI m_at) (nI m_to) (nI m_many) (nI m_readMany) m_fewest (nI m_size) mn mr) (fun (r : Int32) (u : va_W) => (∃ (m_thrown' : Int32), u = (wl_k_X9_marks cI cJ cK m0 a_row a_tape a_number a_read a_readBits a_stands a_parted a_bitsWere a_stood a_chosen a_bestChosen a_often a_sorted a_risen a_risenWays m_thrown' (nI m_told) (nI m_taped) (nI m_at) (nI m_to) (nI m_many) (nI m_readMany) m_fewest (nI m_size) mn mr) ∧ r = (-1) ∧ (l9.toInt < 0 ∨ r9.toInt < l9.toInt ∨ m_many < r9.toInt ∨ v9.toInt < 0 ∨ 255 < v9.toInt)) ∨ (∃ (t' : Nat) (m_thrown' : Int32) (m_told' : Nat) (mr' : Nat → Int64), u = (wl_k_X9_marks cI cJ cK m0 a_row a_tape a_number a_read a_readBits a_stands a_parted a_bitsWere a_stood a_chosen a_bestChosen a_often a_sorted a_risen a_risenWays m_thrown' (nI m_told') (nI m_taped) (nI m_at) (nI m_to) (nI m_many) (nI m_readMany) m_fewest (nI m_size) mn mr') ∧ r = nI t' ∧ m_told' ≤ 64 ∧ 0 ≤ l9.toInt ∧ l9.toInt ≤ r9.toInt ∧ r9.toInt ≤ m_many ∧ 0 ≤ v9.toInt ∧ v9.toInt ≤ 255 ∧ t' = cn mn v9.toInt.toNat l9.toInt.toNat r9.toInt.toNat ∧ m_told' = min t' 32)) := by
  refine ctI.of (cc := cX9_marks) (maxL := 6) (ret := (some .int)) (by decide) rfl (Nat.le_of_ble_eq_true rfl) ?_
  intro p e s m below meth c ls A hx hb hr hts hown hml hlocks hname hA hK hN hP hD hS hl
  have hl : lv_has ls 6 [(0, .ref m0), (1, .int l9), (2, .int r9), (3, .int v9)] := hl
  have hown : s.vm.findClass RX9 = some m.cls := hown
  have hi9 : ∀ w ∈ u_ws RX9 TX9 24, w ∈ wsX9_marks := by decide +kernel
  have fl1 := hts (.fieldLink RX9 1 "PlaneColumnModel" "thrown" "I") (by decide +kernel)
  have fl11 := hts (.fieldLink RX9 11 "PlaneColumnModel" "told" "I") (by decide +kernel)
  have fl49 := hts (.fieldLink RX9 49 "PlaneColumnModel" "number" "[I") (by decide +kernel)
  refine lv_aload_n hx hb dX9_marks_0 rfl (lv_at hl 0 rfl) ?_
  refine lv_iconst (v := 0) hx hb dX9_marks_1 (by decide +kernel) ?_
  refine va_put (ci := 9) (v := .int 0) (ty := (.int)) (C := RX9) (T := TX9) (N := 24) hx hb hts hi9 tyX9 tyX9_ok nmX9 hown hK hP hD hS 0 rfl rfl 0 (by decide) fl1 (fun _ h9 => h9) rfl (by decide +kernel) rfl rfl (Nat.le_of_ble_eq_true rfl) dX9_marks_2 (fun H locs hP hD hS => ?_)
  have hP : va_P D vwCl (wl_k_X9_marks cI cJ cK m0 a_row a_tape a_number a_read a_readBits a_stands a_parted a_bitsWere a_stood a_chosen a_bestChosen a_often a_sorted a_risen a_risenWays 0 (nI m_told) (nI m_taped) (nI m_at) (nI m_to) (nI m_many) (nI m_readMany) m_fewest (nI m_size) mn mr) H := hP
  have hD : va_D A (wl_k_X9_marks cI cJ cK m0 a_row a_tape a_number a_read a_readBits a_stands a_parted a_bitsWere a_stood a_chosen a_bestChosen a_often a_sorted a_risen a_risenWays 0 (nI m_told) (nI m_taped) (nI m_at) (nI m_to) (nI m_many) (nI m_readMany) m_fewest (nI m_size) mn mr) := hD
  refine lv_aload_n hx hb dX9_marks_5 rfl (lv_at hl 0 rfl) ?_
  refine lv_iload_n hx hb dX9_marks_6 rfl (lv_at hl 1 rfl) ?_
  refine lv_iload_n hx hb dX9_marks_7 rfl (lv_at hl 2 rfl) ?_
  refine my_gpI (my_pV (As := [.int l9, .int r9]) (rest := []) (ci := 9) ⟨hx, hb, hml, hown, hts⟩ (cwV 2 hts gX9_marks_X9_isSpan rfl rfl rfl (by decide +kernel) ⟨Nat.le_of_ble_eq_true rfl, Nat.le_of_ble_eq_true rfl⟩) hN hK hP [0] rfl 0 rfl rfl rfl rfl hl.1 rfl (Nat.le_of_ble_eq_true rfl) dX9_marks_8 ⟨Nat.le_of_ble_eq_true rfl, Nat.le_of_ble_eq_true rfl⟩  (k_X9_isSpan l D cI cJ cK m0 a_row a_tape a_number a_read a_readBits a_stands a_parted a_bitsWere a_stood a_chosen a_bestChosen a_often a_sorted a_risen a_risenWays (0 : Int32) m_told m_taped m_at m_to m_many m_readMany m_fewest m_size l9 r9 (by first | assumption | omega | decide +kernel) (by first | assumption | omega | decide +kernel) (by first | assumption | omega | decide +kernel) (by first | assumption | omega | decide +kernel) (by first | assumption | omega | decide +kernel) (by first | assumption | omega | decide +kernel) (by first | assumption | omega | decide +kernel))) (fun r hp => ?_)
  rcases hp with ⟨a_1, b_2, rfl, rfl, rfl, ha_3, hb_4⟩ | ⟨rfl, ho_5⟩
  ·
    refine lv_if_eq (tgt := 21) hx hb dX9_marks_11 (by decide) (fun c11 => ?_) (fun c11 => ?_)
    ·
      exact absurd c11 (by decide +kernel)
    ·
      refine lv_iload_n hx hb dX9_marks_14 rfl (lv_at hl 3 rfl) ?_
      refine my_gpI (my_pS (As := [.int v9]) (rest := []) ⟨hx, hb, hml, hown, hts⟩ (va_cwS 1 hts gX9_marks_X9_isNumber rfl rfl rfl (by decide +kernel) ⟨Nat.le_of_ble_eq_true rfl, Nat.le_of_ble_eq_true rfl⟩) hN hK hP [] rfl rfl hl.1 rfl (Nat.le_of_ble_eq_true rfl) dX9_marks_15 ⟨Nat.le_of_ble_eq_true rfl, Nat.le_of_ble_eq_true rfl⟩  (k_X9_isNumber l D cI cJ cK v9)) (fun r hp => ?_)
      rcases hp with ⟨k_6, rfl, rfl, ha_7⟩ | ⟨rfl, ho_8⟩
      ·
        refine lv_if_ne (tgt := 23) hx hb dX9_marks_18 (by decide) (fun c18 => ?_) (fun c18 => ?_)
        ·
          refine lv_iconst (v := 0) hx hb dX9_marks_23 (by decide +kernel) ?_
          refine lv_istore (lv' := [(4, .int 0), (0, .ref m0), (1, .int (nI a_1)), (2, .int (nI b_2)), (3, .int (nI k_6))]) hx hb dX9_marks_24 hl (by decide) rfl (fun ls hl => ?_)
          refine lv_aload_n hx hb dX9_marks_26 rfl (lv_at hl 1 rfl) ?_
          refine lv_iconst (v := 0) hx hb dX9_marks_27 (by decide +kernel) ?_
          refine va_put (ci := 9) (v := .int 0) (ty := (.int)) (C := RX9) (T := TX9) (N := 24) hx hb hts hi9 tyX9 tyX9_ok nmX9 hown hK hP hD hS 0 rfl rfl 1 (by decide) fl11 (fun _ h9 => h9) rfl (by decide +kernel) rfl rfl (Nat.le_of_ble_eq_true rfl) dX9_marks_28 (fun H locs hP hD hS => ?_)
          have hP : va_P D vwCl (wl_k_X9_marks cI cJ cK m0 a_row a_tape a_number a_read a_readBits a_stands a_parted a_bitsWere a_stood a_chosen a_bestChosen a_often a_sorted a_risen a_risenWays 0 0 (nI m_taped) (nI m_at) (nI m_to) (nI m_many) (nI m_readMany) m_fewest (nI m_size) mn mr) H := hP
          have hD : va_D A (wl_k_X9_marks cI cJ cK m0 a_row a_tape a_number a_read a_readBits a_stands a_parted a_bitsWere a_stood a_chosen a_bestChosen a_often a_sorted a_risen a_risenWays 0 0 (nI m_taped) (nI m_at) (nI m_to) (nI m_many) (nI m_readMany) m_fewest (nI m_size) mn mr) := hD
          refine lv_iload_n hx hb dX9_marks_31 rfl (lv_at hl 2 rfl) ?_
          refine lv_istore (lv' := [(5, .int (nI a_1)), (4, .int 0), (0, .ref m0), (1, .int (nI a_1)), (2, .int (nI b_2)), (3, .int (nI k_6))]) hx hb dX9_marks_32 hl (by decide) rfl (fun ls hl => ?_)
          have loop34 : ∀ (n9 : Nat) (k : Nat) (t : Nat) (m0_told_34 : Nat) (a_row_34 : Nat → Int64), 64 - k < n9 → (t ≤ 64) → (k ≤ 64) → (a_1 ≤ k) → (k ≤ b_2) → (t ≤ k) → (t = cn mn k_6 a_1 k) → (m0_told_34 ≤ t) → (m0_told_34 ≤ 32) → (m0_told_34 = min t 32) → (m0_told_34 ≤ 64) → ∀ (H : Heap) (locs : List Loc) (ls : Array Slot), va_P D vwCl (wl_k_X9_marks cI cJ cK m0 a_row a_tape a_number a_read a_readBits a_stands a_parted a_bitsWere a_stood a_chosen a_bestChosen a_often a_sorted a_risen a_risenWays 0 (nI m0_told_34) (nI m_taped) (nI m_at) (nI m_to) (nI m_many) (nI m_readMany) m_fewest (nI m_size) mn a_row_34) H → va_D A (wl_k_X9_marks cI cJ cK m0 a_row a_tape a_number a_read a_readBits a_stands a_parted a_bitsWere a_stood a_chosen a_bestChosen a_often a_sorted a_risen a_risenWays 0 (nI m0_told_34) (nI m_taped) (nI m_at) (nI m_to) (nI m_many) (nI m_readMany) m_fewest (nI m_size) mn a_row_34) → va_S A s.heap H locs → lv_has ls 6 [(5, .int (nI k)), (4, .int (nI t)), (0, .ref m0), (1, .int (nI a_1)), (2, .int (nI b_2)), (3, .int (nI k_6))] → W p l e ({ frames := 2, cells := 0, slots := 0, locals := 120 } : Room) s m [.ref m0, .int (nI a_1), .int (nI b_2), .int (nI k_6)].toArray below meth c H locs 0 0 (MQ below (va_Qi (fun (r : Int32) (u : va_W) => (∃ (m_thrown' : Int32), u = (wl_k_X9_marks cI cJ cK m0 a_row a_tape a_number a_read a_readBits a_stands a_parted a_bitsWere a_stood a_chosen a_bestChosen a_often a_sorted a_risen a_risenWays m_thrown' (nI m_told) (nI m_taped) (nI m_at) (nI m_to) (nI m_many) (nI m_readMany) m_fewest (nI m_size) mn mr) ∧ r = (-1) ∧ ((nI a_1).toInt < 0 ∨ (nI b_2).toInt < (nI a_1).toInt ∨ m_many < (nI b_2).toInt ∨ (nI k_6).toInt < 0 ∨ 255 < (nI k_6).toInt)) ∨ (∃ (t' : Nat) (m_thrown' : Int32) (m_told' : Nat) (mr' : Nat → Int64), u = (wl_k_X9_marks cI cJ cK m0 a_row a_tape a_number a_read a_readBits a_stands a_parted a_bitsWere a_stood a_chosen a_bestChosen a_often a_sorted a_risen a_risenWays m_thrown' (nI m_told') (nI m_taped) (nI m_at) (nI m_to) (nI m_many) (nI m_readMany) m_fewest (nI m_size) mn mr') ∧ r = nI t' ∧ m_told' ≤ 64 ∧ 0 ≤ (nI a_1).toInt ∧ (nI a_1).toInt ≤ (nI b_2).toInt ∧ (nI b_2).toInt ≤ m_many ∧ 0 ≤ (nI k_6).toInt ∧ (nI k_6).toInt ≤ 255 ∧ t' = cn mn (nI k_6).toInt.toNat (nI a_1).toInt.toNat (nI b_2).toInt.toNat ∧ m_told' = min t' 32)) (my_B D (tyIJ cI cJ cK) A) A) [.ref m0, .int (nI a_1), .int (nI b_2), .int (nI k_6)].toArray s 0 0 A) (F0 m 34 ls []) := by
            intro n9
            induction n9 with
            | zero =>
              intro k t m0_told_34 a_row_34 hn9
              exact absurd hn9 (Nat.not_lt_zero _)
            | succ n9 ih34 =>
              intro k t m0_told_34 a_row_34 hn9 hk_t hk_k hak hkb htk ht htd htd2 htd9 hz_m0_told_34 H locs ls hP hD hS hl
              refine lv_iload hx hb dX9_marks_34 (lv_at hl 0 rfl) ?_
              refine lv_iload_n hx hb dX9_marks_36 rfl (lv_at hl 4 rfl) ?_
              refine lv_icmp_ge (tgt := 74) hx hb dX9_marks_37 (by decide) (fun c37 => ?_) (fun c37 => ?_)
              ·
                have d37 : ((k : Nat) : Int) ≥ ((b_2 : Nat) : Int) := my_ge c37 (nI_toInt (by omega)) (nI_toInt (by omega))
                have hke : k = b_2 := by omega
                refine lv_iload hx hb dX9_marks_74 (lv_at hl 1 rfl) ?_
                have hsI_l9 : (nI a_1).toInt = ((a_1 : Nat) : Int) := nI_toInt (by omega)
                have hsN_l9 : (nI a_1).toInt.toNat = a_1 := nIt (by omega)
                have hsI_r9 : (nI b_2).toInt = ((b_2 : Nat) : Int) := nI_toInt (by omega)
                have hsN_r9 : (nI b_2).toInt.toNat = b_2 := nIt (by omega)
                have hsI_v9 : (nI k_6).toInt = ((k_6 : Nat) : Int) := nI_toInt (by omega)
                have hsN_v9 : (nI k_6).toInt.toNat = k_6 := nIt (by omega)
                exact my_retI hx hb hr hlocks hK hS (wl_k_X9_marks cI cJ cK m0 a_row a_tape a_number a_read a_readBits a_stands a_parted a_bitsWere a_stood a_chosen a_bestChosen a_often a_sorted a_risen a_risenWays 0 (nI m0_told_34) (nI m_taped) (nI m_at) (nI m_to) (nI m_many) (nI m_readMany) m_fewest (nI m_size) mn a_row_34) hP hD (Or.inr (⟨t, 0, m0_told_34, a_row_34, rfl, rfl, (by first | assumption | omega | trivial | decide +kernel), (by first | assumption | omega | trivial | decide +kernel), (by first | assumption | omega | trivial | decide +kernel), (by first | assumption | omega | trivial | decide +kernel), (by first | assumption | omega | trivial | decide +kernel), (by first | assumption | omega | trivial | decide +kernel), (by rw [hsN_l9, hsN_r9, hsN_v9, ← hke]; exact ht), (by first | assumption | omega | trivial | decide +kernel)⟩)) dX9_marks_76
              ·
                have d37 : ((k : Nat) : Int) < ((b_2 : Nat) : Int) := my_nge c37 (nI_toInt (by omega)) (nI_toInt (by omega))
                refine lv_aload_n hx hb dX9_marks_40 rfl (lv_at hl 2 rfl) ?_
                refine va_get (ci := 9) (v := .ref a_number) (C := RX9) (T := TX9) (N := 24) hx hb hts hi9 hown hK hP 0 rfl rfl 8 (by decide) fl49 (fun _ h9 => h9) rfl dX9_marks_41 ?_
                refine lv_iload hx hb dX9_marks_44 (lv_at hl 0 rfl) ?_
                refine va_iald hx hb hK hP 1 0 rfl rfl (vp_in_nI (by omega) (by omega)) dX9_marks_46 ?_
                refine my_eqi (y := mn k) (congrArg mn (nI_clamp (by omega))) ?_
                have hb_9 := hR_mn k
                refine lv_iload_n hx hb dX9_marks_47 rfl (lv_at hl 5 rfl) ?_
                refine lv_icmp_ne (tgt := 68) hx hb dX9_marks_48 (by decide) (fun c48 => ?_) (fun c48 => ?_)
                ·
                  have d48 : (mn k).toInt ≠ ((k_6 : Nat) : Int) := my_ne c48 rfl (nI_toInt (by omega))
                  refine lv_iinc (v := nI (k + 1)) (lv' := [(5, .int (nI (k + 1))), (4, .int (nI t)), (0, .ref m0), (1, .int (nI a_1)), (2, .int (nI b_2)), (3, .int (nI k_6))]) hx hb dX9_marks_68 hl (k := 0) rfl (my_incN k 1 (by decide +kernel)) (by decide) rfl (fun ls hl => ?_)
                  refine lv_goto (tgt := 34) hx hb dX9_marks_71 (by decide) ?_
                  exact ih34  (k + 1) t m0_told_34 a_row_34 (by omega) (by first | assumption | omega | decide +kernel) (by first | assumption | omega | decide +kernel) (by first | assumption | omega | decide +kernel) (by first | assumption | omega | decide +kernel) (by first | assumption | omega | decide +kernel) (by first | exact cn_go1 ht (by omega) (by omega) (by assumption) | exact cn_go0 ht (by omega) (by assumption)) (by first | assumption | omega | decide +kernel) (by first | assumption | omega | decide +kernel) (by first | assumption | omega | decide +kernel) (by first | assumption | omega | decide +kernel) _ _ ls hP hD hS (lv_sub hl [0, 1, 2, 3, 4, 5] rfl)
                ·
                  have d48 : (mn k).toInt = ((k_6 : Nat) : Int) := my_eq c48 rfl (nI_toInt (by omega))
                  refine lv_iload hx hb dX9_marks_51 (lv_at hl 1 rfl) ?_
                  refine lv_bipush (v := 32) hx hb dX9_marks_53 (by decide +kernel) ?_
                  refine lv_icmp_ge (tgt := 65) hx hb dX9_marks_55 (by decide) (fun c55 => ?_) (fun c55 => ?_)
                  ·
                    have d55 : ((t : Nat) : Int) ≥ (32 : Int) := my_ge c55 (nI_toInt (by omega)) (by decide +kernel)
                    refine lv_iinc (v := nI (t + 1)) (lv' := [(4, .int (nI (t + 1))), (5, .int (nI k)), (0, .ref m0), (1, .int (nI a_1)), (2, .int (nI b_2)), (3, .int (nI k_6))]) hx hb dX9_marks_65 hl (k := 1) rfl (my_incN t 1 (by decide +kernel)) (by decide) rfl (fun ls hl => ?_)
                    refine lv_iinc (v := nI (k + 1)) (lv' := [(5, .int (nI (k + 1))), (4, .int (nI (t + 1))), (0, .ref m0), (1, .int (nI a_1)), (2, .int (nI b_2)), (3, .int (nI k_6))]) hx hb dX9_marks_68 hl (k := 1) rfl (my_incN k 1 (by decide +kernel)) (by decide) rfl (fun ls hl => ?_)
                    refine lv_goto (tgt := 34) hx hb dX9_marks_71 (by decide) ?_
                    exact ih34  (k + 1) (t + 1) m0_told_34 a_row_34 (by omega) (by first | assumption | omega | decide +kernel) (by first | assumption | omega | decide +kernel) (by first | assumption | omega | decide +kernel) (by first | assumption | omega | decide +kernel) (by first | assumption | omega | decide +kernel) (by first | exact cn_go1 ht (by omega) (by omega) (by assumption) | exact cn_go0 ht (by omega) (by assumption)) (by first | assumption | omega | decide +kernel) (by first | assumption | omega | decide +kernel) (by first | assumption | omega | decide +kernel) (by first | assumption | omega | decide +kernel) _ _ ls hP hD hS (lv_sub hl [0, 1, 2, 3, 4, 5] rfl)
                  ·
                    have d55 : ((t : Nat) : Int) < (32 : Int) := my_nge c55 (nI_toInt (by omega)) (by decide +kernel)
                    refine lv_aload_n hx hb dX9_marks_58 rfl (lv_at hl 2 rfl) ?_
                    refine lv_iload hx hb dX9_marks_59 (lv_at hl 0 rfl) ?_
                    refine lv_i2l (v := lN k) hx hb dX9_marks_61 (nI_l (by omega)) ?_
                    refine my_goVS (wc := (wl_k_X9_enters cI cJ cK m0 a_row a_tape a_number a_read a_readBits a_stands a_parted a_bitsWere a_stood a_chosen a_bestChosen a_often a_sorted a_risen a_risenWays 0 (nI m0_told_34) (nI m_taped) (nI m_at) (nI m_to) (nI m_many) (nI m_readMany) m_fewest (nI m_size) a_row_34)) hP hD hS hA [0, 2] rfl [some 0, none, some 1] (by decide +kernel) (my_cV (As := [.long (lN k)]) (rest := []) (ci := 9) (wc := (wl_k_X9_enters cI cJ cK m0 a_row a_tape a_number a_read a_readBits a_stands a_parted a_bitsWere a_stood a_chosen a_bestChosen a_often a_sorted a_risen a_risenWays 0 (nI m0_told_34) (nI m_taped) (nI m_at) (nI m_to) (nI m_many) (nI m_readMany) m_fewest (nI m_size) a_row_34)) ⟨hx, hb, hml, hown, hts⟩ (cwV 1 hts gX9_marks_X9_enters rfl rfl rfl (by decide +kernel) ⟨Nat.le_of_ble_eq_true rfl, Nat.le_of_ble_eq_true rfl⟩) hN hK hP hD [0, 2] rfl (by decide) rfl 0 rfl rfl rfl rfl hl.1 rfl (Nat.le_of_ble_eq_true rfl) dX9_marks_62 ⟨Nat.le_of_ble_eq_true rfl, Nat.le_of_ble_eq_true rfl⟩  ((k_X9_enters l D cI cJ cK m0 a_row a_tape a_number a_read a_readBits a_stands a_parted a_bitsWere a_stood a_chosen a_bestChosen a_often a_sorted a_risen a_risenWays (0 : Int32) m0_told_34 m_taped m_at m_to m_many m_readMany m_fewest m_size a_row_34 (lN k) (by first | assumption | omega | decide +kernel) (by first | assumption | omega | decide +kernel) (by first | assumption | omega | decide +kernel) (by first | assumption | omega | decide +kernel) (by first | assumption | omega | decide +kernel) (by first | assumption | omega | decide +kernel) (by first | assumption | omega | decide +kernel) (by first | assumption | omega | decide +kernel)) _)) (fun u H locs hp hPD hS => ?_)
                    obtain ⟨m_told_10, mr_11, rfl, hhz_m_told_12, ht_13⟩ := hp
                    obtain ⟨hP, hD⟩ := hPD rfl
                    have hP : va_P D vwCl (wl_k_X9_marks cI cJ cK m0 a_row a_tape a_number a_read a_readBits a_stands a_parted a_bitsWere a_stood a_chosen a_bestChosen a_often a_sorted a_risen a_risenWays 0 (nI m_told_10) (nI m_taped) (nI m_at) (nI m_to) (nI m_many) (nI m_readMany) m_fewest (nI m_size) mn mr_11) H := hP
                    have hD : va_D A (wl_k_X9_marks cI cJ cK m0 a_row a_tape a_number a_read a_readBits a_stands a_parted a_bitsWere a_stood a_chosen a_bestChosen a_often a_sorted a_risen a_risenWays 0 (nI m_told_10) (nI m_taped) (nI m_at) (nI m_to) (nI m_many) (nI m_readMany) m_fewest (nI m_size) mn mr_11) := hD
                    refine lv_iinc (v := nI (t + 1)) (lv' := [(4, .int (nI (t + 1))), (5, .int (nI k)), (0, .ref m0), (1, .int (nI a_1)), (2, .int (nI b_2)), (3, .int (nI k_6))]) hx hb dX9_marks_65 hl (k := 1) rfl (my_incN t 1 (by decide +kernel)) (by decide) rfl (fun ls hl => ?_)
                    refine lv_iinc (v := nI (k + 1)) (lv' := [(5, .int (nI (k + 1))), (4, .int (nI (t + 1))), (0, .ref m0), (1, .int (nI a_1)), (2, .int (nI b_2)), (3, .int (nI k_6))]) hx hb dX9_marks_68 hl (k := 1) rfl (my_incN k 1 (by decide +kernel)) (by decide) rfl (fun ls hl => ?_)
                    refine lv_goto (tgt := 34) hx hb dX9_marks_71 (by decide) ?_
                    exact ih34  (k + 1) (t + 1) m_told_10 mr_11 (by omega) (by first | assumption | omega | decide +kernel) (by first | assumption | omega | decide +kernel) (by first | assumption | omega | decide +kernel) (by first | assumption | omega | decide +kernel) (by first | assumption | omega | decide +kernel) (by first | exact cn_go1 ht (by omega) (by omega) (by assumption) | exact cn_go0 ht (by omega) (by assumption)) (by first | assumption | omega | decide +kernel) (by first | assumption | omega | decide +kernel) (by first | assumption | omega | decide +kernel) (by first | assumption | omega | decide +kernel) _ _ ls hP hD hS (lv_sub hl [0, 1, 2, 3, 4, 5] rfl)
          exact loop34 ((64 - a_1) + 1) a_1 0 0 mr (Nat.lt_succ_self _) (by first | assumption | omega | decide +kernel) (by first | assumption | omega | decide +kernel) (by first | assumption | omega | decide +kernel) (by first | assumption | omega | decide +kernel) (by first | assumption | omega | decide +kernel) ((cn_start (Nat.le_refl _)).symm) (by first | assumption | omega | decide +kernel) (by first | assumption | omega | decide +kernel) (by first | assumption | omega | decide +kernel) (by first | assumption | omega | decide +kernel) _ _ ls hP hD hS (lv_sub hl [0, 1, 2, 3, 4, 5] rfl)
        ·
          exact absurd c18 (by decide +kernel)
      ·
        refine lv_if_ne (tgt := 23) hx hb dX9_marks_18 (by decide) (fun c18 => ?_) (fun c18 => ?_)
        ·
          exact absurd c18 (by decide +kernel)
        ·
          refine lv_iconst (v := (-1)) hx hb dX9_marks_21 (by decide +kernel) ?_
          have hsI_l9 : (nI a_1).toInt = ((a_1 : Nat) : Int) := nI_toInt (by omega)
          have hsN_l9 : (nI a_1).toInt.toNat = a_1 := nIt (by omega)
          have hsI_r9 : (nI b_2).toInt = ((b_2 : Nat) : Int) := nI_toInt (by omega)
          have hsN_r9 : (nI b_2).toInt.toNat = b_2 := nIt (by omega)
          exact my_retI hx hb hr hlocks hK hS (wl_k_X9_marks cI cJ cK m0 a_row a_tape a_number a_read a_readBits a_stands a_parted a_bitsWere a_stood a_chosen a_bestChosen a_often a_sorted a_risen a_risenWays 0 (nI m_told) (nI m_taped) (nI m_at) (nI m_to) (nI m_many) (nI m_readMany) m_fewest (nI m_size) mn mr) hP hD (Or.inl ⟨0, rfl, rfl, (by first | assumption | omega | trivial | decide +kernel)⟩) dX9_marks_22
  ·
    refine lv_if_eq (tgt := 21) hx hb dX9_marks_11 (by decide) (fun c11 => ?_) (fun c11 => ?_)
    ·
      refine lv_iconst (v := (-1)) hx hb dX9_marks_21 (by decide +kernel) ?_
      exact my_retI hx hb hr hlocks hK hS (wl_k_X9_marks cI cJ cK m0 a_row a_tape a_number a_read a_readBits a_stands a_parted a_bitsWere a_stood a_chosen a_bestChosen a_often a_sorted a_risen a_risenWays 0 (nI m_told) (nI m_taped) (nI m_at) (nI m_to) (nI m_many) (nI m_readMany) m_fewest (nI m_size) mn mr) hP hD (Or.inl ⟨0, rfl, rfl, (by first | assumption | omega | trivial | decide +kernel)⟩) dX9_marks_22
    ·
      exact absurd c11 (by decide +kernel)
