abbrev wl_k_X9_counts_ (cI cJ cK : ClassId) (m0 : Nat) (a_row : Nat) (a_tape : Nat) (a_number : Nat) (a_read : Nat) (a_readBits : Nat) (a_stands : Nat) (a_parted : Nat) (a_bitsWere : Nat) (a_stood : Nat) (a_chosen : Nat) (a_bestChosen : Nat) (a_often : Nat) (a_sorted : Nat) (a_risen : Nat) (a_risenWays : Nat) (v0_ : Int32) (v1_ : Int32) (v2_ : Int32) (v3_ : Int32) (v4_ : Int32) (v5_ : Int32) (v6_ : Int32) (v7_ : Int32) (v8_ : Int32) (v9_ : Nat → Int32) (v10_ : Nat → Int32) : va_W := [(m0, .inr (9, [.int v0_, .int v1_, .ref a_row, .ref a_tape, .int v2_, .int v3_, .int v4_, .int v5_, .ref a_number, .ref a_read, .int v6_, .ref a_readBits, .ref a_stands, .ref a_parted, .ref a_bitsWere, .ref a_stood, .ref a_chosen, .ref a_bestChosen, .int v7_, .ref a_often, .ref a_sorted, .int v8_, .ref a_risen, .ref a_risenWays])), (a_number, .inl (cI, 64, .inl v9_)), (a_often, .inl (cI, 512, .inl v10_))]
set_option maxHeartbeats 4000000 in
set_option maxRecDepth 100000 in
theorem k_X9_counts_ (l : Launch) (D : va_G) (cI cJ cK : ClassId) (m0 : Nat) (a_row : Nat) (a_tape : Nat) (a_number : Nat) (a_read : Nat) (a_readBits : Nat) (a_stands : Nat) (a_parted : Nat) (a_bitsWere : Nat) (a_stood : Nat) (a_chosen : Nat) (a_bestChosen : Nat) (a_often : Nat) (a_sorted : Nat) (a_risen : Nat) (a_risenWays : Nat) (m_thrown : Int32) (m_told : Nat) (m_taped : Nat) (m_at : Nat) (m_to : Nat) (m_many : Nat) (m_readMany : Nat) (m_fewest : Int32) (m_size : Nat) (mn : Nat → Int32) (mf : Nat → Int32) (l9 : Int32) (A_l9 : Int) (hA_l9 : l9.toInt = A_l9) (r9 : Int32) (A_r9 : Int) (hA_r9 : r9.toInt = A_r9) (s9 : Int32) (A_s9 : Int) (hA_s9 : s9.toInt = A_s9) (t9 : Int32) (A_t9 : Int) (hA_t9 : t9.toInt = A_t9) (hz_m_told : m_told ≤ 64) (hz_m_taped : m_taped ≤ 100) (hz_m_at : m_at ≤ 100) (hz_m_to : m_to ≤ 100) (hz_m_many : m_many ≤ 64) (hz_m_readMany : m_readMany ≤ 64) (hz_m_size : m_size ≤ 64) (hR_mn : RB 0 255 mn) : ctI l yX9_counts_ wsX9_counts_ ({ frames := 1, cells := 0, slots := 0, locals := 60 } : Room) D (tyIJ cI cJ cK) [.ref m0, .int l9, .int r9, .int s9, .int t9] (wl_k_X9_counts_ cI cJ cK m0 a_row a_tape a_number a_read a_readBits a_stands a_parted a_bitsWere a_stood a_chosen a_bestChosen a_often a_sorted a_risen a_risenWays m_thrown (nI m_told) (nI m_taped) (nI m_at) (nI m_to) (nI m_many) (nI m_readMany) m_fewest (nI m_size) mn mf) (fun (r : Int32) (u : va_W) => (∃ (a : Nat) (b : Nat) (e : Nat) (d : Nat) (mf' : Nat → Int32), u = (wl_k_X9_counts_ cI cJ cK m0 a_row a_tape a_number a_read a_readBits a_stands a_parted a_bitsWere a_stood a_chosen a_bestChosen a_often a_sorted a_risen a_risenWays m_thrown (nI m_told) (nI m_taped) (nI m_at) (nI m_to) (nI m_many) (nI m_readMany) m_fewest (nI m_size) mn mf') ∧ r = 1 ∧ l9 = nI a ∧ r9 = nI b ∧ s9 = nI e ∧ t9 = nI d ∧ a ≤ b ∧ b ≤ m_many ∧ e ≤ d ∧ d ≤ m_many ∧ (∀ v, v < 256 → mf' v = nI (cn mn v a b)) ∧ (∀ v, v < 256 → mf' (v + 256) = nI (cn mn v e d))) ∨ (u = (wl_k_X9_counts_ cI cJ cK m0 a_row a_tape a_number a_read a_readBits a_stands a_parted a_bitsWere a_stood a_chosen a_bestChosen a_often a_sorted a_risen a_risenWays m_thrown (nI m_told) (nI m_taped) (nI m_at) (nI m_to) (nI m_many) (nI m_readMany) m_fewest (nI m_size) mn mf) ∧ r = 0 ∧ ((A_l9 < 0 ∨ A_r9 < A_l9 ∨ m_many < A_r9) ∨ (A_s9 < 0 ∨ A_t9 < A_s9 ∨ m_many < A_t9)))) := by
  refine ctI.of (cc := cX9_counts_) (maxL := 5) (ret := (some .boolean)) (by decide) rfl (Nat.le_of_ble_eq_true rfl) ?_
  intro p e s m below meth c ls A hx hb hr hts hown hml hlocks hname hA hK hN hP hD hS hl
  have hl : lv_has ls 5 [(0, .ref m0), (1, .int l9), (2, .int r9), (3, .int s9), (4, .int t9)] := hl
  have hown : s.vm.findClass RX9 = some m.cls := hown
  refine lv_aload_n hx hb dX9_counts__0 rfl (lv_at hl 0 rfl) ?_
  refine lv_iload_n hx hb dX9_counts__1 rfl (lv_at hl 1 rfl) ?_
  refine lv_iload_n hx hb dX9_counts__2 rfl (lv_at hl 2 rfl) ?_
  refine my_gpI (my_pV (As := [.int l9, .int r9]) (rest := []) (ci := 9) ⟨hx, hb, hml, hown, hts⟩ (cwV 2 hts gX9_counts__X9_isSpan rfl rfl rfl (by decide +kernel) ⟨Nat.le_of_ble_eq_true rfl, Nat.le_of_ble_eq_true rfl⟩) hN hK hP [0] rfl 0 rfl rfl rfl rfl hl.1 rfl (Nat.le_of_ble_eq_true rfl) dX9_counts__3 ⟨Nat.le_of_ble_eq_true rfl, Nat.le_of_ble_eq_true rfl⟩  (k_X9_isSpan l D cI cJ cK m0 a_row a_tape a_number a_read a_readBits a_stands a_parted a_bitsWere a_stood a_chosen a_bestChosen a_often a_sorted a_risen a_risenWays m_thrown m_told m_taped m_at m_to m_many m_readMany m_fewest m_size l9 r9 (by first | assumption | omega | decide +kernel) (by first | assumption | omega | decide +kernel) (by first | assumption | omega | decide +kernel) (by first | assumption | omega | decide +kernel) (by first | assumption | omega | decide +kernel) (by first | assumption | omega | decide +kernel) (by first | assumption | omega | decide +kernel))) (fun r hp => ?_)
  rcases hp with ⟨a_1, b_2, rfl, rfl, rfl, ha_3, hb_4⟩ | ⟨rfl, ho_5⟩
  ·
    refine lv_if_eq (tgt := 19) hx hb dX9_counts__6 (by decide) (fun c6 => ?_) (fun c6 => ?_)
    ·
      exact absurd c6 (by decide +kernel)
    ·
      refine lv_aload_n hx hb dX9_counts__9 rfl (lv_at hl 0 rfl) ?_
      refine lv_iload_n hx hb dX9_counts__10 rfl (lv_at hl 3 rfl) ?_
      refine lv_iload hx hb dX9_counts__11 (lv_at hl 4 rfl) ?_
      refine my_gpI (my_pV (As := [.int s9, .int t9]) (rest := []) (ci := 9) ⟨hx, hb, hml, hown, hts⟩ (cwV 2 hts gX9_counts__X9_isSpan rfl rfl rfl (by decide +kernel) ⟨Nat.le_of_ble_eq_true rfl, Nat.le_of_ble_eq_true rfl⟩) hN hK hP [0] rfl 0 rfl rfl rfl rfl hl.1 rfl (Nat.le_of_ble_eq_true rfl) dX9_counts__13 ⟨Nat.le_of_ble_eq_true rfl, Nat.le_of_ble_eq_true rfl⟩  (k_X9_isSpan l D cI cJ cK m0 a_row a_tape a_number a_read a_readBits a_stands a_parted a_bitsWere a_stood a_chosen a_bestChosen a_often a_sorted a_risen a_risenWays m_thrown m_told m_taped m_at m_to m_many m_readMany m_fewest m_size s9 t9 (by first | assumption | omega | decide +kernel) (by first | assumption | omega | decide +kernel) (by first | assumption | omega | decide +kernel) (by first | assumption | omega | decide +kernel) (by first | assumption | omega | decide +kernel) (by first | assumption | omega | decide +kernel) (by first | assumption | omega | decide +kernel))) (fun r hp => ?_)
      rcases hp with ⟨a_6, b_7, rfl, rfl, rfl, ha_8, hb_9⟩ | ⟨rfl, ho_10⟩
      ·
        refine lv_if_ne (tgt := 21) hx hb dX9_counts__16 (by decide) (fun c16 => ?_) (fun c16 => ?_)
        ·
          refine lv_aload_n hx hb dX9_counts__21 rfl (lv_at hl 0 rfl) ?_
          refine lv_iconst (v := 0) hx hb dX9_counts__22 (by decide +kernel) ?_
          refine lv_iload_n hx hb dX9_counts__23 rfl (lv_at hl 1 rfl) ?_
          refine lv_iload_n hx hb dX9_counts__24 rfl (lv_at hl 2 rfl) ?_
          refine my_goVS (wc := (wl_k0_X9_counts cI cJ cK m0 a_row a_tape a_number a_read a_readBits a_stands a_parted a_bitsWere a_stood a_chosen a_bestChosen a_often a_sorted a_risen a_risenWays m_thrown (nI m_told) (nI m_taped) (nI m_at) (nI m_to) (nI m_many) (nI m_readMany) m_fewest (nI m_size) mn mf)) hP hD hS hA [0, 1, 2] rfl [some 0, some 1, some 2] (by decide +kernel) (my_cV (As := [.int 0, .int (nI a_1), .int (nI b_2)]) (rest := []) (ci := 9) (wc := (wl_k0_X9_counts cI cJ cK m0 a_row a_tape a_number a_read a_readBits a_stands a_parted a_bitsWere a_stood a_chosen a_bestChosen a_often a_sorted a_risen a_risenWays m_thrown (nI m_told) (nI m_taped) (nI m_at) (nI m_to) (nI m_many) (nI m_readMany) m_fewest (nI m_size) mn mf)) ⟨hx, hb, hml, hown, hts⟩ (cwV 3 hts gX9_counts__X9_counts rfl rfl rfl (by decide +kernel) ⟨Nat.le_of_ble_eq_true rfl, Nat.le_of_ble_eq_true rfl⟩) hN hK hP hD [0, 1, 2] rfl (by decide) rfl 0 rfl rfl rfl rfl hl.1 rfl (Nat.le_of_ble_eq_true rfl) dX9_counts__25 ⟨Nat.le_of_ble_eq_true rfl, Nat.le_of_ble_eq_true rfl⟩  ((k0_X9_counts l D cI cJ cK m0 a_row a_tape a_number a_read a_readBits a_stands a_parted a_bitsWere a_stood a_chosen a_bestChosen a_often a_sorted a_risen a_risenWays m_thrown m_told m_taped m_at m_to m_many m_readMany m_fewest m_size mn mf a_1 b_2 (by first | assumption | omega | decide +kernel) (by first | assumption | omega | decide +kernel) (by first | assumption | omega | decide +kernel) (by first | assumption | omega | decide +kernel) (by first | assumption | omega | decide +kernel) (by first | assumption | omega | decide +kernel) (by first | assumption | omega | decide +kernel) hR_mn (by first | assumption | omega | decide +kernel) (by first | assumption | omega | decide +kernel)) _)) (fun u H locs hp hPD hS => ?_)
          obtain ⟨mf_11, rfl, hcn0, hco0⟩ := hp
          obtain ⟨hP, hD⟩ := hPD rfl
          have hP : va_P D vwCl (wl_k_X9_counts_ cI cJ cK m0 a_row a_tape a_number a_read a_readBits a_stands a_parted a_bitsWere a_stood a_chosen a_bestChosen a_often a_sorted a_risen a_risenWays m_thrown (nI m_told) (nI m_taped) (nI m_at) (nI m_to) (nI m_many) (nI m_readMany) m_fewest (nI m_size) mn mf_11) H := hP
          have hD : va_D A (wl_k_X9_counts_ cI cJ cK m0 a_row a_tape a_number a_read a_readBits a_stands a_parted a_bitsWere a_stood a_chosen a_bestChosen a_often a_sorted a_risen a_risenWays m_thrown (nI m_told) (nI m_taped) (nI m_at) (nI m_to) (nI m_many) (nI m_readMany) m_fewest (nI m_size) mn mf_11) := hD
          refine lv_aload_n hx hb dX9_counts__28 rfl (lv_at hl 0 rfl) ?_
          refine lv_iconst (v := 1) hx hb dX9_counts__29 (by decide +kernel) ?_
          refine lv_iload_n hx hb dX9_counts__30 rfl (lv_at hl 3 rfl) ?_
          refine lv_iload hx hb dX9_counts__31 (lv_at hl 4 rfl) ?_
          refine my_goVS (wc := (wl_k1_X9_counts cI cJ cK m0 a_row a_tape a_number a_read a_readBits a_stands a_parted a_bitsWere a_stood a_chosen a_bestChosen a_often a_sorted a_risen a_risenWays m_thrown (nI m_told) (nI m_taped) (nI m_at) (nI m_to) (nI m_many) (nI m_readMany) m_fewest (nI m_size) mn mf_11)) hP hD hS hA [0, 1, 2] rfl [some 0, some 1, some 2] (by decide +kernel) (my_cV (As := [.int 1, .int (nI a_6), .int (nI b_7)]) (rest := []) (ci := 9) (wc := (wl_k1_X9_counts cI cJ cK m0 a_row a_tape a_number a_read a_readBits a_stands a_parted a_bitsWere a_stood a_chosen a_bestChosen a_often a_sorted a_risen a_risenWays m_thrown (nI m_told) (nI m_taped) (nI m_at) (nI m_to) (nI m_many) (nI m_readMany) m_fewest (nI m_size) mn mf_11)) ⟨hx, hb, hml, hown, hts⟩ (cwV 3 hts gX9_counts__X9_counts rfl rfl rfl (by decide +kernel) ⟨Nat.le_of_ble_eq_true rfl, Nat.le_of_ble_eq_true rfl⟩) hN hK hP hD [0, 1, 2] rfl (by decide) rfl 0 rfl rfl rfl rfl hl.1 rfl (Nat.le_of_ble_eq_true rfl) dX9_counts__33 ⟨Nat.le_of_ble_eq_true rfl, Nat.le_of_ble_eq_true rfl⟩  ((k1_X9_counts l D cI cJ cK m0 a_row a_tape a_number a_read a_readBits a_stands a_parted a_bitsWere a_stood a_chosen a_bestChosen a_often a_sorted a_risen a_risenWays m_thrown m_told m_taped m_at m_to m_many m_readMany m_fewest m_size mn mf_11 a_6 b_7 (by first | assumption | omega | decide +kernel) (by first | assumption | omega | decide +kernel) (by first | assumption | omega | decide +kernel) (by first | assumption | omega | decide +kernel) (by first | assumption | omega | decide +kernel) (by first | assumption | omega | decide +kernel) (by first | assumption | omega | decide +kernel) hR_mn (by first | assumption | omega | decide +kernel) (by first | assumption | omega | decide +kernel)) _)) (fun u H locs hp hPD hS => ?_)
          obtain ⟨mf_12, rfl, hcn1, hco1⟩ := hp
          obtain ⟨hP, hD⟩ := hPD rfl
          have hP : va_P D vwCl (wl_k_X9_counts_ cI cJ cK m0 a_row a_tape a_number a_read a_readBits a_stands a_parted a_bitsWere a_stood a_chosen a_bestChosen a_often a_sorted a_risen a_risenWays m_thrown (nI m_told) (nI m_taped) (nI m_at) (nI m_to) (nI m_many) (nI m_readMany) m_fewest (nI m_size) mn mf_12) H := hP
          have hD : va_D A (wl_k_X9_counts_ cI cJ cK m0 a_row a_tape a_number a_read a_readBits a_stands a_parted a_bitsWere a_stood a_chosen a_bestChosen a_often a_sorted a_risen a_risenWays m_thrown (nI m_told) (nI m_taped) (nI m_at) (nI m_to) (nI m_many) (nI m_readMany) m_fewest (nI m_size) mn mf_12) := hD
          refine lv_iconst (v := 1) hx hb dX9_counts__36 (by decide +kernel) ?_
          exact my_retZ hx hb hr hlocks (by decide +kernel) hK hS (wl_k_X9_counts_ cI cJ cK m0 a_row a_tape a_number a_read a_readBits a_stands a_parted a_bitsWere a_stood a_chosen a_bestChosen a_often a_sorted a_risen a_risenWays m_thrown (nI m_told) (nI m_taped) (nI m_at) (nI m_to) (nI m_many) (nI m_readMany) m_fewest (nI m_size) mn mf_12) hP hD (Or.inl ⟨a_1, b_2, a_6, b_7, mf_12, rfl, rfl, rfl, rfl, rfl, rfl, (by first | assumption | omega | trivial | decide +kernel), (by first | assumption | omega | trivial | decide +kernel), (by first | assumption | omega | trivial | decide +kernel), (by first | assumption | omega | trivial | decide +kernel), (fun v hv => (hco1 v hv).trans (hcn0 v hv)), hcn1⟩) dX9_counts__37
        ·
          exact absurd c16 (by decide +kernel)
      ·
        refine lv_if_ne (tgt := 21) hx hb dX9_counts__16 (by decide) (fun c16 => ?_) (fun c16 => ?_)
        ·
          exact absurd c16 (by decide +kernel)
        ·
          refine lv_iconst (v := 0) hx hb dX9_counts__19 (by decide +kernel) ?_
          exact my_retZ hx hb hr hlocks (by decide +kernel) hK hS (wl_k_X9_counts_ cI cJ cK m0 a_row a_tape a_number a_read a_readBits a_stands a_parted a_bitsWere a_stood a_chosen a_bestChosen a_often a_sorted a_risen a_risenWays m_thrown (nI m_told) (nI m_taped) (nI m_at) (nI m_to) (nI m_many) (nI m_readMany) m_fewest (nI m_size) mn mf) hP hD (Or.inr (⟨rfl, rfl, (by first | assumption | omega | trivial | decide +kernel)⟩)) dX9_counts__20
  ·
    refine lv_if_eq (tgt := 19) hx hb dX9_counts__6 (by decide) (fun c6 => ?_) (fun c6 => ?_)
    ·
      refine lv_iconst (v := 0) hx hb dX9_counts__19 (by decide +kernel) ?_
      exact my_retZ hx hb hr hlocks (by decide +kernel) hK hS (wl_k_X9_counts_ cI cJ cK m0 a_row a_tape a_number a_read a_readBits a_stands a_parted a_bitsWere a_stood a_chosen a_bestChosen a_often a_sorted a_risen a_risenWays m_thrown (nI m_told) (nI m_taped) (nI m_at) (nI m_to) (nI m_many) (nI m_readMany) m_fewest (nI m_size) mn mf) hP hD (Or.inr (⟨rfl, rfl, (by first | assumption | omega | trivial | decide +kernel)⟩)) dX9_counts__20
    ·
      exact absurd c6 (by decide +kernel)
abbrev wl_k_X9_common (cI cJ cK : ClassId) (m0 : Nat) (a_row : Nat) (a_tape : Nat) (a_number : Nat) (a_read : Nat) (a_readBits : Nat) (a_stands : Nat) (a_parted : Nat) (a_bitsWere : Nat) (a_stood : Nat) (a_chosen : Nat) (a_bestChosen : Nat) (a_often : Nat) (a_sorted : Nat) (a_risen : Nat) (a_risenWays : Nat) (v0_ : Int32) (v1_ : Int32) (v2_ : Int32) (v3_ : Int32) (v4_ : Int32) (v5_ : Int32) (v6_ : Int32) (v7_ : Int32) (v8_ : Int32) (v9_ : Nat → Int32) (v10_ : Nat → Int32) (v11_ : Nat → Int64) : va_W := [(m0, .inr (9, [.int v0_, .int v1_, .ref a_row, .ref a_tape, .int v2_, .int v3_, .int v4_, .int v5_, .ref a_number, .ref a_read, .int v6_, .ref a_readBits, .ref a_stands, .ref a_parted, .ref a_bitsWere, .ref a_stood, .ref a_chosen, .ref a_bestChosen, .int v7_, .ref a_often, .ref a_sorted, .int v8_, .ref a_risen, .ref a_risenWays])), (a_number, .inl (cI, 64, .inl v9_)), (a_often, .inl (cI, 512, .inl v10_)), (a_row, .inl (cJ, 64, .inr (.inl v11_)))]
set_option maxHeartbeats 4000000 in
set_option maxRecDepth 100000 in
theorem k_X9_common (l : Launch) (D : va_G) (cI cJ cK : ClassId) (m0 : Nat) (a_row : Nat) (a_tape : Nat) (a_number : Nat) (a_read : Nat) (a_readBits : Nat) (a_stands : Nat) (a_parted : Nat) (a_bitsWere : Nat) (a_stood : Nat) (a_chosen : Nat) (a_bestChosen : Nat) (a_often : Nat) (a_sorted : Nat) (a_risen : Nat) (a_risenWays : Nat) (m_thrown : Int32) (m_told : Nat) (m_taped : Nat) (m_at : Nat) (m_to : Nat) (m_many : Nat) (m_readMany : Nat) (m_fewest : Int32) (m_size : Nat) (mn : Nat → Int32) (mf : Nat → Int32) (mr : Nat → Int64) (l9 : Int32) (r9 : Int32) (s9 : Int32) (t9 : Int32) (hz_m_told : m_told ≤ 64) (hz_m_taped : m_taped ≤ 100) (hz_m_at : m_at ≤ 100) (hz_m_to : m_to ≤ 100) (hz_m_many : m_many ≤ 64) (hz_m_readMany : m_readMany ≤ 64) (hz_m_size : m_size ≤ 64) (hR_mn : RB 0 255 mn) : ctI l yX9_common wsX9_common ({ frames := 3, cells := 0, slots := 0, locals := 180 } : Room) D (tyIJ cI cJ cK) [.ref m0, .int l9, .int r9, .int s9, .int t9] (wl_k_X9_common cI cJ cK m0 a_row a_tape a_number a_read a_readBits a_stands a_parted a_bitsWere a_stood a_chosen a_bestChosen a_often a_sorted a_risen a_risenWays m_thrown (nI m_told) (nI m_taped) (nI m_at) (nI m_to) (nI m_many) (nI m_readMany) m_fewest (nI m_size) mn mf mr) (fun (r : Int32) (u : va_W) => ∃ (m_thrown' : Int32) (m_told' : Nat) (mf' : Nat → Int32) (mr' : Nat → Int64), u = (wl_k_X9_common cI cJ cK m0 a_row a_tape a_number a_read a_readBits a_stands a_parted a_bitsWere a_stood a_chosen a_bestChosen a_often a_sorted a_risen a_risenWays m_thrown' (nI m_told') (nI m_taped) (nI m_at) (nI m_to) (nI m_many) (nI m_readMany) m_fewest (nI m_size) mn mf' mr') ∧ m_told' ≤ 64) := by
  refine ctI.of (cc := cX9_common) (maxL := 7) (ret := (some .int)) (by decide) rfl (Nat.le_of_ble_eq_true rfl) ?_
  intro p e s m below meth c ls A hx hb hr hts hown hml hlocks hname hA hK hN hP hD hS hl
  have hl : lv_has ls 7 [(0, .ref m0), (1, .int l9), (2, .int r9), (3, .int s9), (4, .int t9)] := hl
  have hown : s.vm.findClass RX9 = some m.cls := hown
  have hi9 : ∀ w ∈ u_ws RX9 TX9 24, w ∈ wsX9_common := by decide +kernel
  have fl1 := hts (.fieldLink RX9 1 "PlaneColumnModel" "thrown" "I") (by decide +kernel)
  have fl11 := hts (.fieldLink RX9 11 "PlaneColumnModel" "told" "I") (by decide +kernel)
  refine lv_aload_n hx hb dX9_common_0 rfl (lv_at hl 0 rfl) ?_
  refine lv_iconst (v := 0) hx hb dX9_common_1 (by decide +kernel) ?_
  refine va_put (ci := 9) (v := .int 0) (ty := (.int)) (C := RX9) (T := TX9) (N := 24) hx hb hts hi9 tyX9 tyX9_ok nmX9 hown hK hP hD hS 0 rfl rfl 0 (by decide) fl1 (fun _ h9 => h9) rfl (by decide +kernel) rfl rfl (Nat.le_of_ble_eq_true rfl) dX9_common_2 (fun H locs hP hD hS => ?_)
  have hP : va_P D vwCl (wl_k_X9_common cI cJ cK m0 a_row a_tape a_number a_read a_readBits a_stands a_parted a_bitsWere a_stood a_chosen a_bestChosen a_often a_sorted a_risen a_risenWays 0 (nI m_told) (nI m_taped) (nI m_at) (nI m_to) (nI m_many) (nI m_readMany) m_fewest (nI m_size) mn mf mr) H := hP
  have hD : va_D A (wl_k_X9_common cI cJ cK m0 a_row a_tape a_number a_read a_readBits a_stands a_parted a_bitsWere a_stood a_chosen a_bestChosen a_often a_sorted a_risen a_risenWays 0 (nI m_told) (nI m_taped) (nI m_at) (nI m_to) (nI m_many) (nI m_readMany) m_fewest (nI m_size) mn mf mr) := hD
  refine lv_aload_n hx hb dX9_common_5 rfl (lv_at hl 0 rfl) ?_
  refine lv_iload_n hx hb dX9_common_6 rfl (lv_at hl 1 rfl) ?_
  refine lv_iload_n hx hb dX9_common_7 rfl (lv_at hl 2 rfl) ?_
  refine lv_iload_n hx hb dX9_common_8 rfl (lv_at hl 3 rfl) ?_
  refine lv_iload hx hb dX9_common_9 (lv_at hl 4 rfl) ?_
  refine my_goIS (wc := (wl_k_X9_counts_ cI cJ cK m0 a_row a_tape a_number a_read a_readBits a_stands a_parted a_bitsWere a_stood a_chosen a_bestChosen a_often a_sorted a_risen a_risenWays 0 (nI m_told) (nI m_taped) (nI m_at) (nI m_to) (nI m_many) (nI m_readMany) m_fewest (nI m_size) mn mf)) hP hD hS hA [0, 1, 2] rfl [some 0, some 1, some 2] (by decide +kernel) (my_cV (As := [.int l9, .int r9, .int s9, .int t9]) (rest := []) (ci := 9) (wc := (wl_k_X9_counts_ cI cJ cK m0 a_row a_tape a_number a_read a_readBits a_stands a_parted a_bitsWere a_stood a_chosen a_bestChosen a_often a_sorted a_risen a_risenWays 0 (nI m_told) (nI m_taped) (nI m_at) (nI m_to) (nI m_many) (nI m_readMany) m_fewest (nI m_size) mn mf)) ⟨hx, hb, hml, hown, hts⟩ (cwV 4 hts gX9_common_X9_counts_ rfl rfl rfl (by decide +kernel) ⟨Nat.le_of_ble_eq_true rfl, Nat.le_of_ble_eq_true rfl⟩) hN hK hP hD [0, 1, 2] rfl (by decide) rfl 0 rfl rfl rfl rfl hl.1 rfl (Nat.le_of_ble_eq_true rfl) dX9_common_11 ⟨Nat.le_of_ble_eq_true rfl, Nat.le_of_ble_eq_true rfl⟩  ((k_X9_counts_ l D cI cJ cK m0 a_row a_tape a_number a_read a_readBits a_stands a_parted a_bitsWere a_stood a_chosen a_bestChosen a_often a_sorted a_risen a_risenWays (0 : Int32) m_told m_taped m_at m_to m_many m_readMany m_fewest m_size mn mf l9 l9.toInt rfl r9 r9.toInt rfl s9 s9.toInt rfl t9 t9.toInt rfl (by first | assumption | omega | decide +kernel) (by first | assumption | omega | decide +kernel) (by first | assumption | omega | decide +kernel) (by first | assumption | omega | decide +kernel) (by first | assumption | omega | decide +kernel) (by first | assumption | omega | decide +kernel) (by first | assumption | omega | decide +kernel) hR_mn) _)) (fun r u H locs hp hPD hS => ?_)
  rcases hp with ⟨a_1, b_2, e_3, d_4, mf_5, rfl, rfl, rfl, rfl, rfl, rfl, hx1_6, hx2_7, hx3_8, hx4_9, hcn0, hcn1⟩ | ⟨rfl, rfl, ho_10⟩
  ·
    obtain ⟨hP, hD⟩ := hPD rfl
    have hP : va_P D vwCl (wl_k_X9_common cI cJ cK m0 a_row a_tape a_number a_read a_readBits a_stands a_parted a_bitsWere a_stood a_chosen a_bestChosen a_often a_sorted a_risen a_risenWays 0 (nI m_told) (nI m_taped) (nI m_at) (nI m_to) (nI m_many) (nI m_readMany) m_fewest (nI m_size) mn mf_5 mr) H := hP
    have hD : va_D A (wl_k_X9_common cI cJ cK m0 a_row a_tape a_number a_read a_readBits a_stands a_parted a_bitsWere a_stood a_chosen a_bestChosen a_often a_sorted a_risen a_risenWays 0 (nI m_told) (nI m_taped) (nI m_at) (nI m_to) (nI m_many) (nI m_readMany) m_fewest (nI m_size) mn mf_5 mr) := hD
    refine lv_if_ne (tgt := 19) hx hb dX9_common_14 (by decide) (fun c14 => ?_) (fun c14 => ?_)
    ·
      refine lv_aload_n hx hb dX9_common_19 rfl (lv_at hl 0 rfl) ?_
      refine lv_iconst (v := 0) hx hb dX9_common_20 (by decide +kernel) ?_
      refine va_put (ci := 9) (v := .int 0) (ty := (.int)) (C := RX9) (T := TX9) (N := 24) hx hb hts hi9 tyX9 tyX9_ok nmX9 hown hK hP hD hS 0 rfl rfl 1 (by decide) fl11 (fun _ h9 => h9) rfl (by decide +kernel) rfl rfl (Nat.le_of_ble_eq_true rfl) dX9_common_21 (fun H locs hP hD hS => ?_)
      have hP : va_P D vwCl (wl_k_X9_common cI cJ cK m0 a_row a_tape a_number a_read a_readBits a_stands a_parted a_bitsWere a_stood a_chosen a_bestChosen a_often a_sorted a_risen a_risenWays 0 0 (nI m_taped) (nI m_at) (nI m_to) (nI m_many) (nI m_readMany) m_fewest (nI m_size) mn mf_5 mr) H := hP
      have hD : va_D A (wl_k_X9_common cI cJ cK m0 a_row a_tape a_number a_read a_readBits a_stands a_parted a_bitsWere a_stood a_chosen a_bestChosen a_often a_sorted a_risen a_risenWays 0 0 (nI m_taped) (nI m_at) (nI m_to) (nI m_many) (nI m_readMany) m_fewest (nI m_size) mn mf_5 mr) := hD
      refine lv_aload_n hx hb dX9_common_24 rfl (lv_at hl 0 rfl) ?_
      refine lv_aload_n hx hb dX9_common_25 rfl (lv_at hl 0 rfl) ?_
      refine lv_iconst (v := 1) hx hb dX9_common_26 (by decide +kernel) ?_
      refine lv_iconst (v := 1) hx hb dX9_common_27 (by decide +kernel) ?_
      refine my_gpI (my_pV (As := [.int 1, .int 1]) (rest := [.ref m0]) (ci := 9) ⟨hx, hb, hml, hown, hts⟩ (cwV 2 hts gX9_common_X9_nodes rfl rfl rfl (by decide +kernel) ⟨Nat.le_of_ble_eq_true rfl, Nat.le_of_ble_eq_true rfl⟩) hN hK hP [0, 2] rfl 0 rfl rfl rfl rfl hl.1 rfl (Nat.le_of_ble_eq_true rfl) dX9_common_28 ⟨Nat.le_of_ble_eq_true rfl, Nat.le_of_ble_eq_true rfl⟩  (k1_X9_nodes l D cI cJ cK m0 a_row a_tape a_number a_read a_readBits a_stands a_parted a_bitsWere a_stood a_chosen a_bestChosen a_often a_sorted a_risen a_risenWays (0 : Int32) 0 m_taped m_at m_to m_many m_readMany m_fewest m_size mf_5 (1 : Int32) (by first | assumption | omega | decide +kernel) (by first | assumption | omega | decide +kernel) (by first | assumption | omega | decide +kernel) (by first | assumption | omega | decide +kernel) (by first | assumption | omega | decide +kernel) (by first | assumption | omega | decide +kernel) (by first | assumption | omega | decide +kernel))) (fun r hp => ?_)
      obtain _ := hp
      obtain ⟨r_11, rfl⟩ : ∃ z, z = r := ⟨_, rfl⟩
      refine lv_i2l (v := r_11.toInt64) hx hb dX9_common_31 rfl ?_
      refine my_goVS (wc := (wl_k_X9_enters cI cJ cK m0 a_row a_tape a_number a_read a_readBits a_stands a_parted a_bitsWere a_stood a_chosen a_bestChosen a_often a_sorted a_risen a_risenWays 0 0 (nI m_taped) (nI m_at) (nI m_to) (nI m_many) (nI m_readMany) m_fewest (nI m_size) mr)) hP hD hS hA [0, 3] rfl [some 0, none, none, some 1] (by decide +kernel) (my_cV (As := [.long r_11.toInt64]) (rest := []) (ci := 9) (wc := (wl_k_X9_enters cI cJ cK m0 a_row a_tape a_number a_read a_readBits a_stands a_parted a_bitsWere a_stood a_chosen a_bestChosen a_often a_sorted a_risen a_risenWays 0 0 (nI m_taped) (nI m_at) (nI m_to) (nI m_many) (nI m_readMany) m_fewest (nI m_size) mr)) ⟨hx, hb, hml, hown, hts⟩ (cwV 1 hts gX9_common_X9_enters rfl rfl rfl (by decide +kernel) ⟨Nat.le_of_ble_eq_true rfl, Nat.le_of_ble_eq_true rfl⟩) hN hK hP hD [0, 3] rfl (by decide) rfl 0 rfl rfl rfl rfl hl.1 rfl (Nat.le_of_ble_eq_true rfl) dX9_common_32 ⟨Nat.le_of_ble_eq_true rfl, Nat.le_of_ble_eq_true rfl⟩  ((k_X9_enters l D cI cJ cK m0 a_row a_tape a_number a_read a_readBits a_stands a_parted a_bitsWere a_stood a_chosen a_bestChosen a_often a_sorted a_risen a_risenWays (0 : Int32) 0 m_taped m_at m_to m_many m_readMany m_fewest m_size mr r_11.toInt64 (by first | assumption | omega | decide +kernel) (by first | assumption | omega | decide +kernel) (by first | assumption | omega | decide +kernel) (by first | assumption | omega | decide +kernel) (by first | assumption | omega | decide +kernel) (by first | assumption | omega | decide +kernel) (by first | assumption | omega | decide +kernel) (by first | assumption | omega | decide +kernel)) _)) (fun u H locs hp hPD hS => ?_)
      obtain ⟨m_told_12, mr_13, rfl, hhz_m_told_14, ht_15⟩ := hp
      obtain ⟨hP, hD⟩ := hPD rfl
      have hP : va_P D vwCl (wl_k_X9_common cI cJ cK m0 a_row a_tape a_number a_read a_readBits a_stands a_parted a_bitsWere a_stood a_chosen a_bestChosen a_often a_sorted a_risen a_risenWays 0 (nI m_told_12) (nI m_taped) (nI m_at) (nI m_to) (nI m_many) (nI m_readMany) m_fewest (nI m_size) mn mf_5 mr_13) H := hP
      have hD : va_D A (wl_k_X9_common cI cJ cK m0 a_row a_tape a_number a_read a_readBits a_stands a_parted a_bitsWere a_stood a_chosen a_bestChosen a_often a_sorted a_risen a_risenWays 0 (nI m_told_12) (nI m_taped) (nI m_at) (nI m_to) (nI m_many) (nI m_readMany) m_fewest (nI m_size) mn mf_5 mr_13) := hD
      refine lv_iconst (v := 0) hx hb dX9_common_35 (by decide +kernel) ?_
      refine lv_istore (lv' := [(5, .int 0), (0, .ref m0), (1, .int (nI a_1)), (2, .int (nI b_2)), (3, .int (nI e_3)), (4, .int (nI d_4))]) hx hb dX9_common_36 hl (by decide) rfl (fun ls hl => ?_)
      refine lv_iconst (v := 0) hx hb dX9_common_38 (by decide +kernel) ?_
      refine lv_istore (lv' := [(6, .int 0), (5, .int 0), (0, .ref m0), (1, .int (nI a_1)), (2, .int (nI b_2)), (3, .int (nI e_3)), (4, .int (nI d_4))]) hx hb dX9_common_39 hl (by decide) rfl (fun ls hl => ?_)
      have loop41 : ∀ (n9 : Nat) (v : Nat) (ct : Nat) (m0_told_41 : Nat) (a_row_41 : Nat → Int64), 256 - v < n9 → (ct ≤ 256) → (v ≤ 256) → (ct ≤ v) → (m0_told_41 ≤ 1 + 3 * ct) → (m0_told_41 ≤ 49) → (m0_told_41 ≤ 64) → ∀ (H : Heap) (locs : List Loc) (ls : Array Slot), va_P D vwCl (wl_k_X9_common cI cJ cK m0 a_row a_tape a_number a_read a_readBits a_stands a_parted a_bitsWere a_stood a_chosen a_bestChosen a_often a_sorted a_risen a_risenWays 0 (nI m0_told_41) (nI m_taped) (nI m_at) (nI m_to) (nI m_many) (nI m_readMany) m_fewest (nI m_size) mn mf_5 a_row_41) H → va_D A (wl_k_X9_common cI cJ cK m0 a_row a_tape a_number a_read a_readBits a_stands a_parted a_bitsWere a_stood a_chosen a_bestChosen a_often a_sorted a_risen a_risenWays 0 (nI m0_told_41) (nI m_taped) (nI m_at) (nI m_to) (nI m_many) (nI m_readMany) m_fewest (nI m_size) mn mf_5 a_row_41) → va_S A s.heap H locs → lv_has ls 7 [(6, .int (nI v)), (5, .int (nI ct)), (0, .ref m0), (1, .int (nI a_1)), (2, .int (nI b_2)), (3, .int (nI e_3)), (4, .int (nI d_4))] → W p l e ({ frames := 3, cells := 0, slots := 0, locals := 180 } : Room) s m [.ref m0, .int (nI a_1), .int (nI b_2), .int (nI e_3), .int (nI d_4)].toArray below meth c H locs 0 0 (MQ below (va_Qi (fun (r : Int32) (u : va_W) => ∃ (m_thrown' : Int32) (m_told' : Nat) (mf' : Nat → Int32) (mr' : Nat → Int64), u = (wl_k_X9_common cI cJ cK m0 a_row a_tape a_number a_read a_readBits a_stands a_parted a_bitsWere a_stood a_chosen a_bestChosen a_often a_sorted a_risen a_risenWays m_thrown' (nI m_told') (nI m_taped) (nI m_at) (nI m_to) (nI m_many) (nI m_readMany) m_fewest (nI m_size) mn mf' mr') ∧ m_told' ≤ 64) (my_B D (tyIJ cI cJ cK) A) A) [.ref m0, .int (nI a_1), .int (nI b_2), .int (nI e_3), .int (nI d_4)].toArray s 0 0 A) (F0 m 41 ls []) := by
        intro n9
        induction n9 with
        | zero =>
          intro v ct m0_told_41 a_row_41 hn9
          exact absurd hn9 (Nat.not_lt_zero _)
        | succ n9 ih41 =>
          intro v ct m0_told_41 a_row_41 hn9 hk_ct hk_v hcv ht ht2 hz_m0_told_41 H locs ls hP hD hS hl
          refine lv_iload hx hb dX9_common_41 (lv_at hl 0 rfl) ?_
          refine lv_sipush (v := 256) hx hb dX9_common_43 (by decide +kernel) ?_
          refine lv_icmp_ge (tgt := 116) hx hb dX9_common_46 (by decide) (fun c46 => ?_) (fun c46 => ?_)
          ·
            have d46 : ((v : Nat) : Int) ≥ (256 : Int) := my_ge c46 (nI_toInt (by omega)) (by decide +kernel)
            refine lv_iload hx hb dX9_common_116 (lv_at hl 1 rfl) ?_
            exact my_retI hx hb hr hlocks hK hS (wl_k_X9_common cI cJ cK m0 a_row a_tape a_number a_read a_readBits a_stands a_parted a_bitsWere a_stood a_chosen a_bestChosen a_often a_sorted a_risen a_risenWays 0 (nI m0_told_41) (nI m_taped) (nI m_at) (nI m_to) (nI m_many) (nI m_readMany) m_fewest (nI m_size) mn mf_5 a_row_41) hP hD (⟨0, m0_told_41, mf_5, a_row_41, rfl, (by first | assumption | omega | trivial | decide +kernel)⟩) dX9_common_118
          ·
            have d46 : ((v : Nat) : Int) < (256 : Int) := my_nge c46 (nI_toInt (by omega)) (by decide +kernel)
            refine lv_aload_n hx hb dX9_common_49 rfl (lv_at hl 2 rfl) ?_
            refine lv_iconst (v := 0) hx hb dX9_common_50 (by decide +kernel) ?_
            refine lv_iload hx hb dX9_common_51 (lv_at hl 0 rfl) ?_
            refine my_gpI (my_pV (As := [.int 0, .int (nI v)]) (rest := []) (ci := 9) ⟨hx, hb, hml, hown, hts⟩ (cwV 2 hts gX9_common_X9_times rfl rfl rfl (by decide +kernel) ⟨Nat.le_of_ble_eq_true rfl, Nat.le_of_ble_eq_true rfl⟩) hN hK hP [0, 2] rfl 0 rfl rfl rfl rfl hl.1 rfl (Nat.le_of_ble_eq_true rfl) dX9_common_53 ⟨Nat.le_of_ble_eq_true rfl, Nat.le_of_ble_eq_true rfl⟩  (k0_X9_times l D cI cJ cK m0 a_row a_tape a_number a_read a_readBits a_stands a_parted a_bitsWere a_stood a_chosen a_bestChosen a_often a_sorted a_risen a_risenWays (0 : Int32) m0_told_41 m_taped m_at m_to m_many m_readMany m_fewest m_size mf_5 v (by first | assumption | omega | decide +kernel) (by first | assumption | omega | decide +kernel) (by first | assumption | omega | decide +kernel) (by first | assumption | omega | decide +kernel) (by first | assumption | omega | decide +kernel) (by first | assumption | omega | decide +kernel) (by first | assumption | omega | decide +kernel) (by first | assumption | omega | decide +kernel))) (fun r hp => ?_)
            obtain rfl := hp
            refine lv_if_le (tgt := 110) hx hb dX9_common_56 (by decide) (fun c56 => ?_) (fun c56 => ?_)
            ·
              have d56 : (mf_5 v).toInt ≤ (0 : Int) := my_le c56 rfl (by decide +kernel)
              refine lv_iinc (v := nI (v + 1)) (lv' := [(6, .int (nI (v + 1))), (5, .int (nI ct)), (0, .ref m0), (1, .int (nI a_1)), (2, .int (nI b_2)), (3, .int (nI e_3)), (4, .int (nI d_4))]) hx hb dX9_common_110 hl (k := 0) rfl (my_incN v 1 (by decide +kernel)) (by decide) rfl (fun ls hl => ?_)
              refine lv_goto (tgt := 41) hx hb dX9_common_113 (by decide) ?_
              exact ih41  (v + 1) ct m0_told_41 a_row_41 (by omega) (by first | assumption | omega | decide +kernel) (by first | assumption | omega | decide +kernel) (by first | assumption | omega | decide +kernel) (by first | assumption | omega | decide +kernel) (by first | assumption | omega | decide +kernel) (by first | assumption | omega | decide +kernel) _ _ ls hP hD hS (lv_sub hl [0, 1, 2, 3, 4, 5, 6] rfl)
            ·
              have d56 : (mf_5 v).toInt > (0 : Int) := my_nle c56 rfl (by decide +kernel)
              refine lv_aload_n hx hb dX9_common_59 rfl (lv_at hl 2 rfl) ?_
              refine lv_iconst (v := 1) hx hb dX9_common_60 (by decide +kernel) ?_
              refine lv_iload hx hb dX9_common_61 (lv_at hl 0 rfl) ?_
              refine my_gpI (my_pV (As := [.int 1, .int (nI v)]) (rest := []) (ci := 9) ⟨hx, hb, hml, hown, hts⟩ (cwV 2 hts gX9_common_X9_times rfl rfl rfl (by decide +kernel) ⟨Nat.le_of_ble_eq_true rfl, Nat.le_of_ble_eq_true rfl⟩) hN hK hP [0, 2] rfl 0 rfl rfl rfl rfl hl.1 rfl (Nat.le_of_ble_eq_true rfl) dX9_common_63 ⟨Nat.le_of_ble_eq_true rfl, Nat.le_of_ble_eq_true rfl⟩  (k1_X9_times l D cI cJ cK m0 a_row a_tape a_number a_read a_readBits a_stands a_parted a_bitsWere a_stood a_chosen a_bestChosen a_often a_sorted a_risen a_risenWays (0 : Int32) m0_told_41 m_taped m_at m_to m_many m_readMany m_fewest m_size mf_5 v (by first | assumption | omega | decide +kernel) (by first | assumption | omega | decide +kernel) (by first | assumption | omega | decide +kernel) (by first | assumption | omega | decide +kernel) (by first | assumption | omega | decide +kernel) (by first | assumption | omega | decide +kernel) (by first | assumption | omega | decide +kernel) (by first | assumption | omega | decide +kernel))) (fun r hp => ?_)
              obtain rfl := hp
              refine lv_if_le (tgt := 110) hx hb dX9_common_66 (by decide) (fun c66 => ?_) (fun c66 => ?_)
              ·
                have d66 : (mf_5 (v + 256)).toInt ≤ (0 : Int) := my_le c66 rfl (by decide +kernel)
                refine lv_iinc (v := nI (v + 1)) (lv' := [(6, .int (nI (v + 1))), (5, .int (nI ct)), (0, .ref m0), (1, .int (nI a_1)), (2, .int (nI b_2)), (3, .int (nI e_3)), (4, .int (nI d_4))]) hx hb dX9_common_110 hl (k := 0) rfl (my_incN v 1 (by decide +kernel)) (by decide) rfl (fun ls hl => ?_)
                refine lv_goto (tgt := 41) hx hb dX9_common_113 (by decide) ?_
                exact ih41  (v + 1) ct m0_told_41 a_row_41 (by omega) (by first | assumption | omega | decide +kernel) (by first | assumption | omega | decide +kernel) (by first | assumption | omega | decide +kernel) (by first | assumption | omega | decide +kernel) (by first | assumption | omega | decide +kernel) (by first | assumption | omega | decide +kernel) _ _ ls hP hD hS (lv_sub hl [0, 1, 2, 3, 4, 5, 6] rfl)
              ·
                have d66 : (mf_5 (v + 256)).toInt > (0 : Int) := my_nle c66 rfl (by decide +kernel)
                refine lv_iload hx hb dX9_common_69 (lv_at hl 1 rfl) ?_
                refine lv_bipush (v := 16) hx hb dX9_common_71 (by decide +kernel) ?_
                refine lv_icmp_ge (tgt := 107) hx hb dX9_common_73 (by decide) (fun c73 => ?_) (fun c73 => ?_)
                ·
                  have d73 : ((ct : Nat) : Int) ≥ (16 : Int) := my_ge c73 (nI_toInt (by omega)) (by decide +kernel)
                  refine lv_iinc (v := nI (ct + 1)) (lv' := [(5, .int (nI (ct + 1))), (6, .int (nI v)), (0, .ref m0), (1, .int (nI a_1)), (2, .int (nI b_2)), (3, .int (nI e_3)), (4, .int (nI d_4))]) hx hb dX9_common_107 hl (k := 1) rfl (my_incN ct 1 (by decide +kernel)) (by decide) rfl (fun ls hl => ?_)
                  refine lv_iinc (v := nI (v + 1)) (lv' := [(6, .int (nI (v + 1))), (5, .int (nI (ct + 1))), (0, .ref m0), (1, .int (nI a_1)), (2, .int (nI b_2)), (3, .int (nI e_3)), (4, .int (nI d_4))]) hx hb dX9_common_110 hl (k := 1) rfl (my_incN v 1 (by decide +kernel)) (by decide) rfl (fun ls hl => ?_)
                  refine lv_goto (tgt := 41) hx hb dX9_common_113 (by decide) ?_
                  exact ih41  (v + 1) (ct + 1) m0_told_41 a_row_41 (by omega) (by first | assumption | omega | decide +kernel) (by first | assumption | omega | decide +kernel) (by first | assumption | omega | decide +kernel) (by first | assumption | omega | decide +kernel) (by first | assumption | omega | decide +kernel) (by first | assumption | omega | decide +kernel) _ _ ls hP hD hS (lv_sub hl [0, 1, 2, 3, 4, 5, 6] rfl)
                ·
                  have d73 : ((ct : Nat) : Int) < (16 : Int) := my_nge c73 (nI_toInt (by omega)) (by decide +kernel)
                  refine lv_aload_n hx hb dX9_common_76 rfl (lv_at hl 2 rfl) ?_
                  refine lv_iload hx hb dX9_common_77 (lv_at hl 0 rfl) ?_
                  refine lv_i2l (v := lN v) hx hb dX9_common_79 (nI_l (by omega)) ?_
                  refine my_goVS (wc := (wl_k_X9_enters cI cJ cK m0 a_row a_tape a_number a_read a_readBits a_stands a_parted a_bitsWere a_stood a_chosen a_bestChosen a_often a_sorted a_risen a_risenWays 0 (nI m0_told_41) (nI m_taped) (nI m_at) (nI m_to) (nI m_many) (nI m_readMany) m_fewest (nI m_size) a_row_41)) hP hD hS hA [0, 3] rfl [some 0, none, none, some 1] (by decide +kernel) (my_cV (As := [.long (lN v)]) (rest := []) (ci := 9) (wc := (wl_k_X9_enters cI cJ cK m0 a_row a_tape a_number a_read a_readBits a_stands a_parted a_bitsWere a_stood a_chosen a_bestChosen a_often a_sorted a_risen a_risenWays 0 (nI m0_told_41) (nI m_taped) (nI m_at) (nI m_to) (nI m_many) (nI m_readMany) m_fewest (nI m_size) a_row_41)) ⟨hx, hb, hml, hown, hts⟩ (cwV 1 hts gX9_common_X9_enters rfl rfl rfl (by decide +kernel) ⟨Nat.le_of_ble_eq_true rfl, Nat.le_of_ble_eq_true rfl⟩) hN hK hP hD [0, 3] rfl (by decide) rfl 0 rfl rfl rfl rfl hl.1 rfl (Nat.le_of_ble_eq_true rfl) dX9_common_80 ⟨Nat.le_of_ble_eq_true rfl, Nat.le_of_ble_eq_true rfl⟩  ((k_X9_enters l D cI cJ cK m0 a_row a_tape a_number a_read a_readBits a_stands a_parted a_bitsWere a_stood a_chosen a_bestChosen a_often a_sorted a_risen a_risenWays (0 : Int32) m0_told_41 m_taped m_at m_to m_many m_readMany m_fewest m_size a_row_41 (lN v) (by first | assumption | omega | decide +kernel) (by first | assumption | omega | decide +kernel) (by first | assumption | omega | decide +kernel) (by first | assumption | omega | decide +kernel) (by first | assumption | omega | decide +kernel) (by first | assumption | omega | decide +kernel) (by first | assumption | omega | decide +kernel) (by first | assumption | omega | decide +kernel)) _)) (fun u H locs hp hPD hS => ?_)
                  obtain ⟨m_told_16, mr_17, rfl, hhz_m_told_18, ht_19⟩ := hp
                  obtain ⟨hP, hD⟩ := hPD rfl
                  have hP : va_P D vwCl (wl_k_X9_common cI cJ cK m0 a_row a_tape a_number a_read a_readBits a_stands a_parted a_bitsWere a_stood a_chosen a_bestChosen a_often a_sorted a_risen a_risenWays 0 (nI m_told_16) (nI m_taped) (nI m_at) (nI m_to) (nI m_many) (nI m_readMany) m_fewest (nI m_size) mn mf_5 mr_17) H := hP
                  have hD : va_D A (wl_k_X9_common cI cJ cK m0 a_row a_tape a_number a_read a_readBits a_stands a_parted a_bitsWere a_stood a_chosen a_bestChosen a_often a_sorted a_risen a_risenWays 0 (nI m_told_16) (nI m_taped) (nI m_at) (nI m_to) (nI m_many) (nI m_readMany) m_fewest (nI m_size) mn mf_5 mr_17) := hD
                  refine lv_aload_n hx hb dX9_common_83 rfl (lv_at hl 2 rfl) ?_
                  refine lv_aload_n hx hb dX9_common_84 rfl (lv_at hl 2 rfl) ?_
                  refine lv_iconst (v := 0) hx hb dX9_common_85 (by decide +kernel) ?_
                  refine lv_iload hx hb dX9_common_86 (lv_at hl 0 rfl) ?_
                  refine my_gpI (my_pV (As := [.int 0, .int (nI v)]) (rest := [.ref m0]) (ci := 9) ⟨hx, hb, hml, hown, hts⟩ (cwV 2 hts gX9_common_X9_times rfl rfl rfl (by decide +kernel) ⟨Nat.le_of_ble_eq_true rfl, Nat.le_of_ble_eq_true rfl⟩) hN hK hP [0, 2] rfl 0 rfl rfl rfl rfl hl.1 rfl (Nat.le_of_ble_eq_true rfl) dX9_common_88 ⟨Nat.le_of_ble_eq_true rfl, Nat.le_of_ble_eq_true rfl⟩  (k0_X9_times l D cI cJ cK m0 a_row a_tape a_number a_read a_readBits a_stands a_parted a_bitsWere a_stood a_chosen a_bestChosen a_often a_sorted a_risen a_risenWays (0 : Int32) m_told_16 m_taped m_at m_to m_many m_readMany m_fewest m_size mf_5 v (by first | assumption | omega | decide +kernel) (by first | assumption | omega | decide +kernel) (by first | assumption | omega | decide +kernel) (by first | assumption | omega | decide +kernel) (by first | assumption | omega | decide +kernel) (by first | assumption | omega | decide +kernel) (by first | assumption | omega | decide +kernel) (by first | assumption | omega | decide +kernel))) (fun r hp => ?_)
                  obtain rfl := hp
                  refine lv_i2l (v := (mf_5 v).toInt64) hx hb dX9_common_91 rfl ?_
                  refine my_goVS (wc := (wl_k_X9_enters cI cJ cK m0 a_row a_tape a_number a_read a_readBits a_stands a_parted a_bitsWere a_stood a_chosen a_bestChosen a_often a_sorted a_risen a_risenWays 0 (nI m_told_16) (nI m_taped) (nI m_at) (nI m_to) (nI m_many) (nI m_readMany) m_fewest (nI m_size) mr_17)) hP hD hS hA [0, 3] rfl [some 0, none, none, some 1] (by decide +kernel) (my_cV (As := [.long ((mf_5 v).toInt64)]) (rest := []) (ci := 9) (wc := (wl_k_X9_enters cI cJ cK m0 a_row a_tape a_number a_read a_readBits a_stands a_parted a_bitsWere a_stood a_chosen a_bestChosen a_often a_sorted a_risen a_risenWays 0 (nI m_told_16) (nI m_taped) (nI m_at) (nI m_to) (nI m_many) (nI m_readMany) m_fewest (nI m_size) mr_17)) ⟨hx, hb, hml, hown, hts⟩ (cwV 1 hts gX9_common_X9_enters rfl rfl rfl (by decide +kernel) ⟨Nat.le_of_ble_eq_true rfl, Nat.le_of_ble_eq_true rfl⟩) hN hK hP hD [0, 3] rfl (by decide) rfl 0 rfl rfl rfl rfl hl.1 rfl (Nat.le_of_ble_eq_true rfl) dX9_common_92 ⟨Nat.le_of_ble_eq_true rfl, Nat.le_of_ble_eq_true rfl⟩  ((k_X9_enters l D cI cJ cK m0 a_row a_tape a_number a_read a_readBits a_stands a_parted a_bitsWere a_stood a_chosen a_bestChosen a_often a_sorted a_risen a_risenWays (0 : Int32) m_told_16 m_taped m_at m_to m_many m_readMany m_fewest m_size mr_17 ((mf_5 v).toInt64) (by first | assumption | omega | decide +kernel) (by first | assumption | omega | decide +kernel) (by first | assumption | omega | decide +kernel) (by first | assumption | omega | decide +kernel) (by first | assumption | omega | decide +kernel) (by first | assumption | omega | decide +kernel) (by first | assumption | omega | decide +kernel) (by first | assumption | omega | decide +kernel)) _)) (fun u H locs hp hPD hS => ?_)
                  obtain ⟨m_told_20, mr_21, rfl, hhz_m_told_22, ht_23⟩ := hp
                  obtain ⟨hP, hD⟩ := hPD rfl
                  have hP : va_P D vwCl (wl_k_X9_common cI cJ cK m0 a_row a_tape a_number a_read a_readBits a_stands a_parted a_bitsWere a_stood a_chosen a_bestChosen a_often a_sorted a_risen a_risenWays 0 (nI m_told_20) (nI m_taped) (nI m_at) (nI m_to) (nI m_many) (nI m_readMany) m_fewest (nI m_size) mn mf_5 mr_21) H := hP
                  have hD : va_D A (wl_k_X9_common cI cJ cK m0 a_row a_tape a_number a_read a_readBits a_stands a_parted a_bitsWere a_stood a_chosen a_bestChosen a_often a_sorted a_risen a_risenWays 0 (nI m_told_20) (nI m_taped) (nI m_at) (nI m_to) (nI m_many) (nI m_readMany) m_fewest (nI m_size) mn mf_5 mr_21) := hD
                  refine lv_aload_n hx hb dX9_common_95 rfl (lv_at hl 2 rfl) ?_
                  refine lv_aload_n hx hb dX9_common_96 rfl (lv_at hl 2 rfl) ?_
                  refine lv_iconst (v := 1) hx hb dX9_common_97 (by decide +kernel) ?_
                  refine lv_iload hx hb dX9_common_98 (lv_at hl 0 rfl) ?_
                  refine my_gpI (my_pV (As := [.int 1, .int (nI v)]) (rest := [.ref m0]) (ci := 9) ⟨hx, hb, hml, hown, hts⟩ (cwV 2 hts gX9_common_X9_times rfl rfl rfl (by decide +kernel) ⟨Nat.le_of_ble_eq_true rfl, Nat.le_of_ble_eq_true rfl⟩) hN hK hP [0, 2] rfl 0 rfl rfl rfl rfl hl.1 rfl (Nat.le_of_ble_eq_true rfl) dX9_common_100 ⟨Nat.le_of_ble_eq_true rfl, Nat.le_of_ble_eq_true rfl⟩  (k1_X9_times l D cI cJ cK m0 a_row a_tape a_number a_read a_readBits a_stands a_parted a_bitsWere a_stood a_chosen a_bestChosen a_often a_sorted a_risen a_risenWays (0 : Int32) m_told_20 m_taped m_at m_to m_many m_readMany m_fewest m_size mf_5 v (by first | assumption | omega | decide +kernel) (by first | assumption | omega | decide +kernel) (by first | assumption | omega | decide +kernel) (by first | assumption | omega | decide +kernel) (by first | assumption | omega | decide +kernel) (by first | assumption | omega | decide +kernel) (by first | assumption | omega | decide +kernel) (by first | assumption | omega | decide +kernel))) (fun r hp => ?_)
                  obtain rfl := hp
                  refine lv_i2l (v := (mf_5 (v + 256)).toInt64) hx hb dX9_common_103 rfl ?_
                  refine my_goVS (wc := (wl_k_X9_enters cI cJ cK m0 a_row a_tape a_number a_read a_readBits a_stands a_parted a_bitsWere a_stood a_chosen a_bestChosen a_often a_sorted a_risen a_risenWays 0 (nI m_told_20) (nI m_taped) (nI m_at) (nI m_to) (nI m_many) (nI m_readMany) m_fewest (nI m_size) mr_21)) hP hD hS hA [0, 3] rfl [some 0, none, none, some 1] (by decide +kernel) (my_cV (As := [.long ((mf_5 (v + 256)).toInt64)]) (rest := []) (ci := 9) (wc := (wl_k_X9_enters cI cJ cK m0 a_row a_tape a_number a_read a_readBits a_stands a_parted a_bitsWere a_stood a_chosen a_bestChosen a_often a_sorted a_risen a_risenWays 0 (nI m_told_20) (nI m_taped) (nI m_at) (nI m_to) (nI m_many) (nI m_readMany) m_fewest (nI m_size) mr_21)) ⟨hx, hb, hml, hown, hts⟩ (cwV 1 hts gX9_common_X9_enters rfl rfl rfl (by decide +kernel) ⟨Nat.le_of_ble_eq_true rfl, Nat.le_of_ble_eq_true rfl⟩) hN hK hP hD [0, 3] rfl (by decide) rfl 0 rfl rfl rfl rfl hl.1 rfl (Nat.le_of_ble_eq_true rfl) dX9_common_104 ⟨Nat.le_of_ble_eq_true rfl, Nat.le_of_ble_eq_true rfl⟩  ((k_X9_enters l D cI cJ cK m0 a_row a_tape a_number a_read a_readBits a_stands a_parted a_bitsWere a_stood a_chosen a_bestChosen a_often a_sorted a_risen a_risenWays (0 : Int32) m_told_20 m_taped m_at m_to m_many m_readMany m_fewest m_size mr_21 ((mf_5 (v + 256)).toInt64) (by first | assumption | omega | decide +kernel) (by first | assumption | omega | decide +kernel) (by first | assumption | omega | decide +kernel) (by first | assumption | omega | decide +kernel) (by first | assumption | omega | decide +kernel) (by first | assumption | omega | decide +kernel) (by first | assumption | omega | decide +kernel) (by first | assumption | omega | decide +kernel)) _)) (fun u H locs hp hPD hS => ?_)
                  obtain ⟨m_told_24, mr_25, rfl, hhz_m_told_26, ht_27⟩ := hp
                  obtain ⟨hP, hD⟩ := hPD rfl
                  have hP : va_P D vwCl (wl_k_X9_common cI cJ cK m0 a_row a_tape a_number a_read a_readBits a_stands a_parted a_bitsWere a_stood a_chosen a_bestChosen a_often a_sorted a_risen a_risenWays 0 (nI m_told_24) (nI m_taped) (nI m_at) (nI m_to) (nI m_many) (nI m_readMany) m_fewest (nI m_size) mn mf_5 mr_25) H := hP
                  have hD : va_D A (wl_k_X9_common cI cJ cK m0 a_row a_tape a_number a_read a_readBits a_stands a_parted a_bitsWere a_stood a_chosen a_bestChosen a_often a_sorted a_risen a_risenWays 0 (nI m_told_24) (nI m_taped) (nI m_at) (nI m_to) (nI m_many) (nI m_readMany) m_fewest (nI m_size) mn mf_5 mr_25) := hD
                  refine lv_iinc (v := nI (ct + 1)) (lv' := [(5, .int (nI (ct + 1))), (6, .int (nI v)), (0, .ref m0), (1, .int (nI a_1)), (2, .int (nI b_2)), (3, .int (nI e_3)), (4, .int (nI d_4))]) hx hb dX9_common_107 hl (k := 1) rfl (my_incN ct 1 (by decide +kernel)) (by decide) rfl (fun ls hl => ?_)
                  refine lv_iinc (v := nI (v + 1)) (lv' := [(6, .int (nI (v + 1))), (5, .int (nI (ct + 1))), (0, .ref m0), (1, .int (nI a_1)), (2, .int (nI b_2)), (3, .int (nI e_3)), (4, .int (nI d_4))]) hx hb dX9_common_110 hl (k := 1) rfl (my_incN v 1 (by decide +kernel)) (by decide) rfl (fun ls hl => ?_)
                  refine lv_goto (tgt := 41) hx hb dX9_common_113 (by decide) ?_
                  exact ih41  (v + 1) (ct + 1) m_told_24 mr_25 (by omega) (by first | assumption | omega | decide +kernel) (by first | assumption | omega | decide +kernel) (by first | assumption | omega | decide +kernel) (by first | assumption | omega | decide +kernel) (by first | assumption | omega | decide +kernel) (by first | assumption | omega | decide +kernel) _ _ ls hP hD hS (lv_sub hl [0, 1, 2, 3, 4, 5, 6] rfl)
      exact loop41 ((256 - 0) + 1) 0 0 m_told_12 mr_13 (Nat.lt_succ_self _) (by first | assumption | omega | decide +kernel) (by first | assumption | omega | decide +kernel) (by first | assumption | omega | decide +kernel) (by first | assumption | omega | decide +kernel) (by first | assumption | omega | decide +kernel) (by first | assumption | omega | decide +kernel) _ _ ls hP hD hS (lv_sub hl [0, 1, 2, 3, 4, 5, 6] rfl)
    ·
      exact absurd c14 (by decide +kernel)
  ·
    obtain ⟨hP, hD⟩ := hPD rfl
    have hP : va_P D vwCl (wl_k_X9_common cI cJ cK m0 a_row a_tape a_number a_read a_readBits a_stands a_parted a_bitsWere a_stood a_chosen a_bestChosen a_often a_sorted a_risen a_risenWays 0 (nI m_told) (nI m_taped) (nI m_at) (nI m_to) (nI m_many) (nI m_readMany) m_fewest (nI m_size) mn mf mr) H := hP
    have hD : va_D A (wl_k_X9_common cI cJ cK m0 a_row a_tape a_number a_read a_readBits a_stands a_parted a_bitsWere a_stood a_chosen a_bestChosen a_often a_sorted a_risen a_risenWays 0 (nI m_told) (nI m_taped) (nI m_at) (nI m_to) (nI m_many) (nI m_readMany) m_fewest (nI m_size) mn mf mr) := hD
    refine lv_if_ne (tgt := 19) hx hb dX9_common_14 (by decide) (fun c14 => ?_) (fun c14 => ?_)
    ·
      exact absurd c14 (by decide +kernel)
    ·
      refine lv_iconst (v := (-1)) hx hb dX9_common_17 (by decide +kernel) ?_
      exact my_retI hx hb hr hlocks hK hS (wl_k_X9_common cI cJ cK m0 a_row a_tape a_number a_read a_readBits a_stands a_parted a_bitsWere a_stood a_chosen a_bestChosen a_often a_sorted a_risen a_risenWays 0 (nI m_told) (nI m_taped) (nI m_at) (nI m_to) (nI m_many) (nI m_readMany) m_fewest (nI m_size) mn mf mr) hP hD (⟨0, m_told, mf, mr, rfl, (by first | assumption | omega | trivial | decide +kernel)⟩) dX9_common_18
abbrev wl_k_X9_lacking (cI cJ cK : ClassId) (m0 : Nat) (a_row : Nat) (a_tape : Nat) (a_number : Nat) (a_read : Nat) (a_readBits : Nat) (a_stands : Nat) (a_parted : Nat) (a_bitsWere : Nat) (a_stood : Nat) (a_chosen : Nat) (a_bestChosen : Nat) (a_often : Nat) (a_sorted : Nat) (a_risen : Nat) (a_risenWays : Nat) (v0_ : Int32) (v1_ : Int32) (v2_ : Int32) (v3_ : Int32) (v4_ : Int32) (v5_ : Int32) (v6_ : Int32) (v7_ : Int32) (v8_ : Int32) (v9_ : Nat → Int32) (v10_ : Nat → Int32) (v11_ : Nat → Int64) : va_W := [(m0, .inr (9, [.int v0_, .int v1_, .ref a_row, .ref a_tape, .int v2_, .int v3_, .int v4_, .int v5_, .ref a_number, .ref a_read, .int v6_, .ref a_readBits, .ref a_stands, .ref a_parted, .ref a_bitsWere, .ref a_stood, .ref a_chosen, .ref a_bestChosen, .int v7_, .ref a_often, .ref a_sorted, .int v8_, .ref a_risen, .ref a_risenWays])), (a_number, .inl (cI, 64, .inl v9_)), (a_often, .inl (cI, 512, .inl v10_)), (a_row, .inl (cJ, 64, .inr (.inl v11_)))]
set_option maxHeartbeats 4000000 in
set_option maxRecDepth 100000 in
theorem k_X9_lacking (l : Launch) (D : va_G) (cI cJ cK : ClassId) (m0 : Nat) (a_row : Nat) (a_tape : Nat) (a_number : Nat) (a_read : Nat) (a_readBits : Nat) (a_stands : Nat) (a_parted : Nat) (a_bitsWere : Nat) (a_stood : Nat) (a_chosen : Nat) (a_bestChosen : Nat) (a_often : Nat) (a_sorted : Nat) (a_risen : Nat) (a_risenWays : Nat) (m_thrown : Int32) (m_told : Nat) (m_taped : Nat) (m_at : Nat) (m_to : Nat) (m_many : Nat) (m_readMany : Nat) (m_fewest : Int32) (m_size : Nat) (mn : Nat → Int32) (mf : Nat → Int32) (mr : Nat → Int64) (l9 : Int32) (r9 : Int32) (s9 : Int32) (t9 : Int32) (hz_m_told : m_told ≤ 64) (hz_m_taped : m_taped ≤ 100) (hz_m_at : m_at ≤ 100) (hz_m_to : m_to ≤ 100) (hz_m_many : m_many ≤ 64) (hz_m_readMany : m_readMany ≤ 64) (hz_m_size : m_size ≤ 64) (hR_mn : RB 0 255 mn) : ctI l yX9_lacking wsX9_lacking ({ frames := 2, cells := 0, slots := 0, locals := 120 } : Room) D (tyIJ cI cJ cK) [.ref m0, .int l9, .int r9, .int s9, .int t9] (wl_k_X9_lacking cI cJ cK m0 a_row a_tape a_number a_read a_readBits a_stands a_parted a_bitsWere a_stood a_chosen a_bestChosen a_often a_sorted a_risen a_risenWays m_thrown (nI m_told) (nI m_taped) (nI m_at) (nI m_to) (nI m_many) (nI m_readMany) m_fewest (nI m_size) mn mf mr) (fun (r : Int32) (u : va_W) => ∃ (m_thrown' : Int32) (m_told' : Nat) (mf' : Nat → Int32) (mr' : Nat → Int64), u = (wl_k_X9_lacking cI cJ cK m0 a_row a_tape a_number a_read a_readBits a_stands a_parted a_bitsWere a_stood a_chosen a_bestChosen a_often a_sorted a_risen a_risenWays m_thrown' (nI m_told') (nI m_taped) (nI m_at) (nI m_to) (nI m_many) (nI m_readMany) m_fewest (nI m_size) mn mf' mr') ∧ m_told' ≤ 64) := by
  refine ctI.of (cc := cX9_lacking) (maxL := 7) (ret := (some .int)) (by decide) rfl (Nat.le_of_ble_eq_true rfl) ?_
  intro p e s m below meth c ls A hx hb hr hts hown hml hlocks hname hA hK hN hP hD hS hl
  have hl : lv_has ls 7 [(0, .ref m0), (1, .int l9), (2, .int r9), (3, .int s9), (4, .int t9)] := hl
  have hown : s.vm.findClass RX9 = some m.cls := hown
  have hi9 : ∀ w ∈ u_ws RX9 TX9 24, w ∈ wsX9_lacking := by decide +kernel
  have fl1 := hts (.fieldLink RX9 1 "PlaneColumnModel" "thrown" "I") (by decide +kernel)
  have fl11 := hts (.fieldLink RX9 11 "PlaneColumnModel" "told" "I") (by decide +kernel)
  refine lv_aload_n hx hb dX9_lacking_0 rfl (lv_at hl 0 rfl) ?_
  refine lv_iconst (v := 0) hx hb dX9_lacking_1 (by decide +kernel) ?_
  refine va_put (ci := 9) (v := .int 0) (ty := (.int)) (C := RX9) (T := TX9) (N := 24) hx hb hts hi9 tyX9 tyX9_ok nmX9 hown hK hP hD hS 0 rfl rfl 0 (by decide) fl1 (fun _ h9 => h9) rfl (by decide +kernel) rfl rfl (Nat.le_of_ble_eq_true rfl) dX9_lacking_2 (fun H locs hP hD hS => ?_)
  have hP : va_P D vwCl (wl_k_X9_lacking cI cJ cK m0 a_row a_tape a_number a_read a_readBits a_stands a_parted a_bitsWere a_stood a_chosen a_bestChosen a_often a_sorted a_risen a_risenWays 0 (nI m_told) (nI m_taped) (nI m_at) (nI m_to) (nI m_many) (nI m_readMany) m_fewest (nI m_size) mn mf mr) H := hP
  have hD : va_D A (wl_k_X9_lacking cI cJ cK m0 a_row a_tape a_number a_read a_readBits a_stands a_parted a_bitsWere a_stood a_chosen a_bestChosen a_often a_sorted a_risen a_risenWays 0 (nI m_told) (nI m_taped) (nI m_at) (nI m_to) (nI m_many) (nI m_readMany) m_fewest (nI m_size) mn mf mr) := hD
  refine lv_aload_n hx hb dX9_lacking_5 rfl (lv_at hl 0 rfl) ?_
  refine lv_iload_n hx hb dX9_lacking_6 rfl (lv_at hl 1 rfl) ?_
  refine lv_iload_n hx hb dX9_lacking_7 rfl (lv_at hl 2 rfl) ?_
  refine lv_iload_n hx hb dX9_lacking_8 rfl (lv_at hl 3 rfl) ?_
  refine lv_iload hx hb dX9_lacking_9 (lv_at hl 4 rfl) ?_
  refine my_goIS (wc := (wl_k_X9_counts_ cI cJ cK m0 a_row a_tape a_number a_read a_readBits a_stands a_parted a_bitsWere a_stood a_chosen a_bestChosen a_often a_sorted a_risen a_risenWays 0 (nI m_told) (nI m_taped) (nI m_at) (nI m_to) (nI m_many) (nI m_readMany) m_fewest (nI m_size) mn mf)) hP hD hS hA [0, 1, 2] rfl [some 0, some 1, some 2] (by decide +kernel) (my_cV (As := [.int l9, .int r9, .int s9, .int t9]) (rest := []) (ci := 9) (wc := (wl_k_X9_counts_ cI cJ cK m0 a_row a_tape a_number a_read a_readBits a_stands a_parted a_bitsWere a_stood a_chosen a_bestChosen a_often a_sorted a_risen a_risenWays 0 (nI m_told) (nI m_taped) (nI m_at) (nI m_to) (nI m_many) (nI m_readMany) m_fewest (nI m_size) mn mf)) ⟨hx, hb, hml, hown, hts⟩ (cwV 4 hts gX9_lacking_X9_counts_ rfl rfl rfl (by decide +kernel) ⟨Nat.le_of_ble_eq_true rfl, Nat.le_of_ble_eq_true rfl⟩) hN hK hP hD [0, 1, 2] rfl (by decide) rfl 0 rfl rfl rfl rfl hl.1 rfl (Nat.le_of_ble_eq_true rfl) dX9_lacking_11 ⟨Nat.le_of_ble_eq_true rfl, Nat.le_of_ble_eq_true rfl⟩  ((k_X9_counts_ l D cI cJ cK m0 a_row a_tape a_number a_read a_readBits a_stands a_parted a_bitsWere a_stood a_chosen a_bestChosen a_often a_sorted a_risen a_risenWays (0 : Int32) m_told m_taped m_at m_to m_many m_readMany m_fewest m_size mn mf l9 l9.toInt rfl r9 r9.toInt rfl s9 s9.toInt rfl t9 t9.toInt rfl (by first | assumption | omega | decide +kernel) (by first | assumption | omega | decide +kernel) (by first | assumption | omega | decide +kernel) (by first | assumption | omega | decide +kernel) (by first | assumption | omega | decide +kernel) (by first | assumption | omega | decide +kernel) (by first | assumption | omega | decide +kernel) hR_mn) _)) (fun r u H locs hp hPD hS => ?_)
  rcases hp with ⟨a_1, b_2, e_3, d_4, mf_5, rfl, rfl, rfl, rfl, rfl, rfl, hx1_6, hx2_7, hx3_8, hx4_9, hcn0, hcn1⟩ | ⟨rfl, rfl, ho_10⟩
  ·
    obtain ⟨hP, hD⟩ := hPD rfl
    have hP : va_P D vwCl (wl_k_X9_lacking cI cJ cK m0 a_row a_tape a_number a_read a_readBits a_stands a_parted a_bitsWere a_stood a_chosen a_bestChosen a_often a_sorted a_risen a_risenWays 0 (nI m_told) (nI m_taped) (nI m_at) (nI m_to) (nI m_many) (nI m_readMany) m_fewest (nI m_size) mn mf_5 mr) H := hP
    have hD : va_D A (wl_k_X9_lacking cI cJ cK m0 a_row a_tape a_number a_read a_readBits a_stands a_parted a_bitsWere a_stood a_chosen a_bestChosen a_often a_sorted a_risen a_risenWays 0 (nI m_told) (nI m_taped) (nI m_at) (nI m_to) (nI m_many) (nI m_readMany) m_fewest (nI m_size) mn mf_5 mr) := hD
    refine lv_if_ne (tgt := 19) hx hb dX9_lacking_14 (by decide) (fun c14 => ?_) (fun c14 => ?_)
    ·
      refine lv_aload_n hx hb dX9_lacking_19 rfl (lv_at hl 0 rfl) ?_
      refine lv_iconst (v := 0) hx hb dX9_lacking_20 (by decide +kernel) ?_
      refine va_put (ci := 9) (v := .int 0) (ty := (.int)) (C := RX9) (T := TX9) (N := 24) hx hb hts hi9 tyX9 tyX9_ok nmX9 hown hK hP hD hS 0 rfl rfl 1 (by decide) fl11 (fun _ h9 => h9) rfl (by decide +kernel) rfl rfl (Nat.le_of_ble_eq_true rfl) dX9_lacking_21 (fun H locs hP hD hS => ?_)
      have hP : va_P D vwCl (wl_k_X9_lacking cI cJ cK m0 a_row a_tape a_number a_read a_readBits a_stands a_parted a_bitsWere a_stood a_chosen a_bestChosen a_often a_sorted a_risen a_risenWays 0 0 (nI m_taped) (nI m_at) (nI m_to) (nI m_many) (nI m_readMany) m_fewest (nI m_size) mn mf_5 mr) H := hP
      have hD : va_D A (wl_k_X9_lacking cI cJ cK m0 a_row a_tape a_number a_read a_readBits a_stands a_parted a_bitsWere a_stood a_chosen a_bestChosen a_often a_sorted a_risen a_risenWays 0 0 (nI m_taped) (nI m_at) (nI m_to) (nI m_many) (nI m_readMany) m_fewest (nI m_size) mn mf_5 mr) := hD
      refine lv_iconst (v := 0) hx hb dX9_lacking_24 (by decide +kernel) ?_
      refine lv_istore (lv' := [(5, .int 0), (0, .ref m0), (1, .int (nI a_1)), (2, .int (nI b_2)), (3, .int (nI e_3)), (4, .int (nI d_4))]) hx hb dX9_lacking_25 hl (by decide) rfl (fun ls hl => ?_)
      refine lv_iconst (v := 0) hx hb dX9_lacking_27 (by decide +kernel) ?_
      refine lv_istore (lv' := [(6, .int 0), (5, .int 0), (0, .ref m0), (1, .int (nI a_1)), (2, .int (nI b_2)), (3, .int (nI e_3)), (4, .int (nI d_4))]) hx hb dX9_lacking_28 hl (by decide) rfl (fun ls hl => ?_)
      have loop30 : ∀ (n9 : Nat) (v : Nat) (ct : Nat) (m0_told_30 : Nat) (a_row_30 : Nat → Int64), 256 - v < n9 → (ct ≤ 256) → (v ≤ 256) → (ct ≤ v) → (m0_told_30 ≤ 0 + 2 * ct) → (m0_told_30 ≤ 32) → (m0_told_30 ≤ 64) → ∀ (H : Heap) (locs : List Loc) (ls : Array Slot), va_P D vwCl (wl_k_X9_lacking cI cJ cK m0 a_row a_tape a_number a_read a_readBits a_stands a_parted a_bitsWere a_stood a_chosen a_bestChosen a_often a_sorted a_risen a_risenWays 0 (nI m0_told_30) (nI m_taped) (nI m_at) (nI m_to) (nI m_many) (nI m_readMany) m_fewest (nI m_size) mn mf_5 a_row_30) H → va_D A (wl_k_X9_lacking cI cJ cK m0 a_row a_tape a_number a_read a_readBits a_stands a_parted a_bitsWere a_stood a_chosen a_bestChosen a_often a_sorted a_risen a_risenWays 0 (nI m0_told_30) (nI m_taped) (nI m_at) (nI m_to) (nI m_many) (nI m_readMany) m_fewest (nI m_size) mn mf_5 a_row_30) → va_S A s.heap H locs → lv_has ls 7 [(6, .int (nI v)), (5, .int (nI ct)), (0, .ref m0), (1, .int (nI a_1)), (2, .int (nI b_2)), (3, .int (nI e_3)), (4, .int (nI d_4))] → W p l e ({ frames := 2, cells := 0, slots := 0, locals := 120 } : Room) s m [.ref m0, .int (nI a_1), .int (nI b_2), .int (nI e_3), .int (nI d_4)].toArray below meth c H locs 0 0 (MQ below (va_Qi (fun (r : Int32) (u : va_W) => ∃ (m_thrown' : Int32) (m_told' : Nat) (mf' : Nat → Int32) (mr' : Nat → Int64), u = (wl_k_X9_lacking cI cJ cK m0 a_row a_tape a_number a_read a_readBits a_stands a_parted a_bitsWere a_stood a_chosen a_bestChosen a_often a_sorted a_risen a_risenWays m_thrown' (nI m_told') (nI m_taped) (nI m_at) (nI m_to) (nI m_many) (nI m_readMany) m_fewest (nI m_size) mn mf' mr') ∧ m_told' ≤ 64) (my_B D (tyIJ cI cJ cK) A) A) [.ref m0, .int (nI a_1), .int (nI b_2), .int (nI e_3), .int (nI d_4)].toArray s 0 0 A) (F0 m 30 ls []) := by
        intro n9
        induction n9 with
        | zero =>
          intro v ct m0_told_30 a_row_30 hn9
          exact absurd hn9 (Nat.not_lt_zero _)
        | succ n9 ih30 =>
          intro v ct m0_told_30 a_row_30 hn9 hk_ct hk_v hcv ht ht2 hz_m0_told_30 H locs ls hP hD hS hl
          refine lv_iload hx hb dX9_lacking_30 (lv_at hl 0 rfl) ?_
          refine lv_sipush (v := 256) hx hb dX9_lacking_32 (by decide +kernel) ?_
          refine lv_icmp_ge (tgt := 93) hx hb dX9_lacking_35 (by decide) (fun c35 => ?_) (fun c35 => ?_)
          ·
            have d35 : ((v : Nat) : Int) ≥ (256 : Int) := my_ge c35 (nI_toInt (by omega)) (by decide +kernel)
            refine lv_iload hx hb dX9_lacking_93 (lv_at hl 1 rfl) ?_
            exact my_retI hx hb hr hlocks hK hS (wl_k_X9_lacking cI cJ cK m0 a_row a_tape a_number a_read a_readBits a_stands a_parted a_bitsWere a_stood a_chosen a_bestChosen a_often a_sorted a_risen a_risenWays 0 (nI m0_told_30) (nI m_taped) (nI m_at) (nI m_to) (nI m_many) (nI m_readMany) m_fewest (nI m_size) mn mf_5 a_row_30) hP hD (⟨0, m0_told_30, mf_5, a_row_30, rfl, (by first | assumption | omega | trivial | decide +kernel)⟩) dX9_lacking_95
          ·
            have d35 : ((v : Nat) : Int) < (256 : Int) := my_nge c35 (nI_toInt (by omega)) (by decide +kernel)
            refine lv_aload_n hx hb dX9_lacking_38 rfl (lv_at hl 2 rfl) ?_
            refine lv_iconst (v := 0) hx hb dX9_lacking_39 (by decide +kernel) ?_
            refine lv_iload hx hb dX9_lacking_40 (lv_at hl 0 rfl) ?_
            refine my_gpI (my_pV (As := [.int 0, .int (nI v)]) (rest := []) (ci := 9) ⟨hx, hb, hml, hown, hts⟩ (cwV 2 hts gX9_lacking_X9_times rfl rfl rfl (by decide +kernel) ⟨Nat.le_of_ble_eq_true rfl, Nat.le_of_ble_eq_true rfl⟩) hN hK hP [0, 2] rfl 0 rfl rfl rfl rfl hl.1 rfl (Nat.le_of_ble_eq_true rfl) dX9_lacking_42 ⟨Nat.le_of_ble_eq_true rfl, Nat.le_of_ble_eq_true rfl⟩  (k0_X9_times l D cI cJ cK m0 a_row a_tape a_number a_read a_readBits a_stands a_parted a_bitsWere a_stood a_chosen a_bestChosen a_often a_sorted a_risen a_risenWays (0 : Int32) m0_told_30 m_taped m_at m_to m_many m_readMany m_fewest m_size mf_5 v (by first | assumption | omega | decide +kernel) (by first | assumption | omega | decide +kernel) (by first | assumption | omega | decide +kernel) (by first | assumption | omega | decide +kernel) (by first | assumption | omega | decide +kernel) (by first | assumption | omega | decide +kernel) (by first | assumption | omega | decide +kernel) (by first | assumption | omega | decide +kernel))) (fun r hp => ?_)
            obtain rfl := hp
            refine lv_if_le (tgt := 87) hx hb dX9_lacking_45 (by decide) (fun c45 => ?_) (fun c45 => ?_)
            ·
              have d45 : (mf_5 v).toInt ≤ (0 : Int) := my_le c45 rfl (by decide +kernel)
              refine lv_iinc (v := nI (v + 1)) (lv' := [(6, .int (nI (v + 1))), (5, .int (nI ct)), (0, .ref m0), (1, .int (nI a_1)), (2, .int (nI b_2)), (3, .int (nI e_3)), (4, .int (nI d_4))]) hx hb dX9_lacking_87 hl (k := 0) rfl (my_incN v 1 (by decide +kernel)) (by decide) rfl (fun ls hl => ?_)
              refine lv_goto (tgt := 30) hx hb dX9_lacking_90 (by decide) ?_
              exact ih30  (v + 1) ct m0_told_30 a_row_30 (by omega) (by first | assumption | omega | decide +kernel) (by first | assumption | omega | decide +kernel) (by first | assumption | omega | decide +kernel) (by first | assumption | omega | decide +kernel) (by first | assumption | omega | decide +kernel) (by first | assumption | omega | decide +kernel) _ _ ls hP hD hS (lv_sub hl [0, 1, 2, 3, 4, 5, 6] rfl)
            ·
              have d45 : (mf_5 v).toInt > (0 : Int) := my_nle c45 rfl (by decide +kernel)
              refine lv_aload_n hx hb dX9_lacking_48 rfl (lv_at hl 2 rfl) ?_
              refine lv_iconst (v := 1) hx hb dX9_lacking_49 (by decide +kernel) ?_
              refine lv_iload hx hb dX9_lacking_50 (lv_at hl 0 rfl) ?_
              refine my_gpI (my_pV (As := [.int 1, .int (nI v)]) (rest := []) (ci := 9) ⟨hx, hb, hml, hown, hts⟩ (cwV 2 hts gX9_lacking_X9_times rfl rfl rfl (by decide +kernel) ⟨Nat.le_of_ble_eq_true rfl, Nat.le_of_ble_eq_true rfl⟩) hN hK hP [0, 2] rfl 0 rfl rfl rfl rfl hl.1 rfl (Nat.le_of_ble_eq_true rfl) dX9_lacking_52 ⟨Nat.le_of_ble_eq_true rfl, Nat.le_of_ble_eq_true rfl⟩  (k1_X9_times l D cI cJ cK m0 a_row a_tape a_number a_read a_readBits a_stands a_parted a_bitsWere a_stood a_chosen a_bestChosen a_often a_sorted a_risen a_risenWays (0 : Int32) m0_told_30 m_taped m_at m_to m_many m_readMany m_fewest m_size mf_5 v (by first | assumption | omega | decide +kernel) (by first | assumption | omega | decide +kernel) (by first | assumption | omega | decide +kernel) (by first | assumption | omega | decide +kernel) (by first | assumption | omega | decide +kernel) (by first | assumption | omega | decide +kernel) (by first | assumption | omega | decide +kernel) (by first | assumption | omega | decide +kernel))) (fun r hp => ?_)
              obtain rfl := hp
              refine lv_if_ne (tgt := 87) hx hb dX9_lacking_55 (by decide) (fun c55 => ?_) (fun c55 => ?_)
              ·
                have d55 : (mf_5 (v + 256)).toInt ≠ (0 : Int) := my_ne c55 rfl (by decide +kernel)
                refine lv_iinc (v := nI (v + 1)) (lv' := [(6, .int (nI (v + 1))), (5, .int (nI ct)), (0, .ref m0), (1, .int (nI a_1)), (2, .int (nI b_2)), (3, .int (nI e_3)), (4, .int (nI d_4))]) hx hb dX9_lacking_87 hl (k := 0) rfl (my_incN v 1 (by decide +kernel)) (by decide) rfl (fun ls hl => ?_)
                refine lv_goto (tgt := 30) hx hb dX9_lacking_90 (by decide) ?_
                exact ih30  (v + 1) ct m0_told_30 a_row_30 (by omega) (by first | assumption | omega | decide +kernel) (by first | assumption | omega | decide +kernel) (by first | assumption | omega | decide +kernel) (by first | assumption | omega | decide +kernel) (by first | assumption | omega | decide +kernel) (by first | assumption | omega | decide +kernel) _ _ ls hP hD hS (lv_sub hl [0, 1, 2, 3, 4, 5, 6] rfl)
              ·
                have d55 : (mf_5 (v + 256)).toInt = (0 : Int) := my_eq c55 rfl (by decide +kernel)
                refine lv_iload hx hb dX9_lacking_58 (lv_at hl 1 rfl) ?_
                refine lv_bipush (v := 16) hx hb dX9_lacking_60 (by decide +kernel) ?_
                refine lv_icmp_ge (tgt := 84) hx hb dX9_lacking_62 (by decide) (fun c62 => ?_) (fun c62 => ?_)
                ·
                  have d62 : ((ct : Nat) : Int) ≥ (16 : Int) := my_ge c62 (nI_toInt (by omega)) (by decide +kernel)
                  refine lv_iinc (v := nI (ct + 1)) (lv' := [(5, .int (nI (ct + 1))), (6, .int (nI v)), (0, .ref m0), (1, .int (nI a_1)), (2, .int (nI b_2)), (3, .int (nI e_3)), (4, .int (nI d_4))]) hx hb dX9_lacking_84 hl (k := 1) rfl (my_incN ct 1 (by decide +kernel)) (by decide) rfl (fun ls hl => ?_)
                  refine lv_iinc (v := nI (v + 1)) (lv' := [(6, .int (nI (v + 1))), (5, .int (nI (ct + 1))), (0, .ref m0), (1, .int (nI a_1)), (2, .int (nI b_2)), (3, .int (nI e_3)), (4, .int (nI d_4))]) hx hb dX9_lacking_87 hl (k := 1) rfl (my_incN v 1 (by decide +kernel)) (by decide) rfl (fun ls hl => ?_)
                  refine lv_goto (tgt := 30) hx hb dX9_lacking_90 (by decide) ?_
                  exact ih30  (v + 1) (ct + 1) m0_told_30 a_row_30 (by omega) (by first | assumption | omega | decide +kernel) (by first | assumption | omega | decide +kernel) (by first | assumption | omega | decide +kernel) (by first | assumption | omega | decide +kernel) (by first | assumption | omega | decide +kernel) (by first | assumption | omega | decide +kernel) _ _ ls hP hD hS (lv_sub hl [0, 1, 2, 3, 4, 5, 6] rfl)
                ·
                  have d62 : ((ct : Nat) : Int) < (16 : Int) := my_nge c62 (nI_toInt (by omega)) (by decide +kernel)
                  refine lv_aload_n hx hb dX9_lacking_65 rfl (lv_at hl 2 rfl) ?_
                  refine lv_iload hx hb dX9_lacking_66 (lv_at hl 0 rfl) ?_
                  refine lv_i2l (v := lN v) hx hb dX9_lacking_68 (nI_l (by omega)) ?_
                  refine my_goVS (wc := (wl_k_X9_enters cI cJ cK m0 a_row a_tape a_number a_read a_readBits a_stands a_parted a_bitsWere a_stood a_chosen a_bestChosen a_often a_sorted a_risen a_risenWays 0 (nI m0_told_30) (nI m_taped) (nI m_at) (nI m_to) (nI m_many) (nI m_readMany) m_fewest (nI m_size) a_row_30)) hP hD hS hA [0, 3] rfl [some 0, none, none, some 1] (by decide +kernel) (my_cV (As := [.long (lN v)]) (rest := []) (ci := 9) (wc := (wl_k_X9_enters cI cJ cK m0 a_row a_tape a_number a_read a_readBits a_stands a_parted a_bitsWere a_stood a_chosen a_bestChosen a_often a_sorted a_risen a_risenWays 0 (nI m0_told_30) (nI m_taped) (nI m_at) (nI m_to) (nI m_many) (nI m_readMany) m_fewest (nI m_size) a_row_30)) ⟨hx, hb, hml, hown, hts⟩ (cwV 1 hts gX9_lacking_X9_enters rfl rfl rfl (by decide +kernel) ⟨Nat.le_of_ble_eq_true rfl, Nat.le_of_ble_eq_true rfl⟩) hN hK hP hD [0, 3] rfl (by decide) rfl 0 rfl rfl rfl rfl hl.1 rfl (Nat.le_of_ble_eq_true rfl) dX9_lacking_69 ⟨Nat.le_of_ble_eq_true rfl, Nat.le_of_ble_eq_true rfl⟩  ((k_X9_enters l D cI cJ cK m0 a_row a_tape a_number a_read a_readBits a_stands a_parted a_bitsWere a_stood a_chosen a_bestChosen a_often a_sorted a_risen a_risenWays (0 : Int32) m0_told_30 m_taped m_at m_to m_many m_readMany m_fewest m_size a_row_30 (lN v) (by first | assumption | omega | decide +kernel) (by first | assumption | omega | decide +kernel) (by first | assumption | omega | decide +kernel) (by first | assumption | omega | decide +kernel) (by first | assumption | omega | decide +kernel) (by first | assumption | omega | decide +kernel) (by first | assumption | omega | decide +kernel) (by first | assumption | omega | decide +kernel)) _)) (fun u H locs hp hPD hS => ?_)
                  obtain ⟨m_told_11, mr_12, rfl, hhz_m_told_13, ht_14⟩ := hp
                  obtain ⟨hP, hD⟩ := hPD rfl
                  have hP : va_P D vwCl (wl_k_X9_lacking cI cJ cK m0 a_row a_tape a_number a_read a_readBits a_stands a_parted a_bitsWere a_stood a_chosen a_bestChosen a_often a_sorted a_risen a_risenWays 0 (nI m_told_11) (nI m_taped) (nI m_at) (nI m_to) (nI m_many) (nI m_readMany) m_fewest (nI m_size) mn mf_5 mr_12) H := hP
                  have hD : va_D A (wl_k_X9_lacking cI cJ cK m0 a_row a_tape a_number a_read a_readBits a_stands a_parted a_bitsWere a_stood a_chosen a_bestChosen a_often a_sorted a_risen a_risenWays 0 (nI m_told_11) (nI m_taped) (nI m_at) (nI m_to) (nI m_many) (nI m_readMany) m_fewest (nI m_size) mn mf_5 mr_12) := hD
                  refine lv_aload_n hx hb dX9_lacking_72 rfl (lv_at hl 2 rfl) ?_
                  refine lv_aload_n hx hb dX9_lacking_73 rfl (lv_at hl 2 rfl) ?_
                  refine lv_iconst (v := 0) hx hb dX9_lacking_74 (by decide +kernel) ?_
                  refine lv_iload hx hb dX9_lacking_75 (lv_at hl 0 rfl) ?_
                  refine my_gpI (my_pV (As := [.int 0, .int (nI v)]) (rest := [.ref m0]) (ci := 9) ⟨hx, hb, hml, hown, hts⟩ (cwV 2 hts gX9_lacking_X9_times rfl rfl rfl (by decide +kernel) ⟨Nat.le_of_ble_eq_true rfl, Nat.le_of_ble_eq_true rfl⟩) hN hK hP [0, 2] rfl 0 rfl rfl rfl rfl hl.1 rfl (Nat.le_of_ble_eq_true rfl) dX9_lacking_77 ⟨Nat.le_of_ble_eq_true rfl, Nat.le_of_ble_eq_true rfl⟩  (k0_X9_times l D cI cJ cK m0 a_row a_tape a_number a_read a_readBits a_stands a_parted a_bitsWere a_stood a_chosen a_bestChosen a_often a_sorted a_risen a_risenWays (0 : Int32) m_told_11 m_taped m_at m_to m_many m_readMany m_fewest m_size mf_5 v (by first | assumption | omega | decide +kernel) (by first | assumption | omega | decide +kernel) (by first | assumption | omega | decide +kernel) (by first | assumption | omega | decide +kernel) (by first | assumption | omega | decide +kernel) (by first | assumption | omega | decide +kernel) (by first | assumption | omega | decide +kernel) (by first | assumption | omega | decide +kernel))) (fun r hp => ?_)
                  obtain rfl := hp
                  refine lv_i2l (v := (mf_5 v).toInt64) hx hb dX9_lacking_80 rfl ?_
                  refine my_goVS (wc := (wl_k_X9_enters cI cJ cK m0 a_row a_tape a_number a_read a_readBits a_stands a_parted a_bitsWere a_stood a_chosen a_bestChosen a_often a_sorted a_risen a_risenWays 0 (nI m_told_11) (nI m_taped) (nI m_at) (nI m_to) (nI m_many) (nI m_readMany) m_fewest (nI m_size) mr_12)) hP hD hS hA [0, 3] rfl [some 0, none, none, some 1] (by decide +kernel) (my_cV (As := [.long ((mf_5 v).toInt64)]) (rest := []) (ci := 9) (wc := (wl_k_X9_enters cI cJ cK m0 a_row a_tape a_number a_read a_readBits a_stands a_parted a_bitsWere a_stood a_chosen a_bestChosen a_often a_sorted a_risen a_risenWays 0 (nI m_told_11) (nI m_taped) (nI m_at) (nI m_to) (nI m_many) (nI m_readMany) m_fewest (nI m_size) mr_12)) ⟨hx, hb, hml, hown, hts⟩ (cwV 1 hts gX9_lacking_X9_enters rfl rfl rfl (by decide +kernel) ⟨Nat.le_of_ble_eq_true rfl, Nat.le_of_ble_eq_true rfl⟩) hN hK hP hD [0, 3] rfl (by decide) rfl 0 rfl rfl rfl rfl hl.1 rfl (Nat.le_of_ble_eq_true rfl) dX9_lacking_81 ⟨Nat.le_of_ble_eq_true rfl, Nat.le_of_ble_eq_true rfl⟩  ((k_X9_enters l D cI cJ cK m0 a_row a_tape a_number a_read a_readBits a_stands a_parted a_bitsWere a_stood a_chosen a_bestChosen a_often a_sorted a_risen a_risenWays (0 : Int32) m_told_11 m_taped m_at m_to m_many m_readMany m_fewest m_size mr_12 ((mf_5 v).toInt64) (by first | assumption | omega | decide +kernel) (by first | assumption | omega | decide +kernel) (by first | assumption | omega | decide +kernel) (by first | assumption | omega | decide +kernel) (by first | assumption | omega | decide +kernel) (by first | assumption | omega | decide +kernel) (by first | assumption | omega | decide +kernel) (by first | assumption | omega | decide +kernel)) _)) (fun u H locs hp hPD hS => ?_)
                  obtain ⟨m_told_15, mr_16, rfl, hhz_m_told_17, ht_18⟩ := hp
                  obtain ⟨hP, hD⟩ := hPD rfl
                  have hP : va_P D vwCl (wl_k_X9_lacking cI cJ cK m0 a_row a_tape a_number a_read a_readBits a_stands a_parted a_bitsWere a_stood a_chosen a_bestChosen a_often a_sorted a_risen a_risenWays 0 (nI m_told_15) (nI m_taped) (nI m_at) (nI m_to) (nI m_many) (nI m_readMany) m_fewest (nI m_size) mn mf_5 mr_16) H := hP
                  have hD : va_D A (wl_k_X9_lacking cI cJ cK m0 a_row a_tape a_number a_read a_readBits a_stands a_parted a_bitsWere a_stood a_chosen a_bestChosen a_often a_sorted a_risen a_risenWays 0 (nI m_told_15) (nI m_taped) (nI m_at) (nI m_to) (nI m_many) (nI m_readMany) m_fewest (nI m_size) mn mf_5 mr_16) := hD
                  refine lv_iinc (v := nI (ct + 1)) (lv' := [(5, .int (nI (ct + 1))), (6, .int (nI v)), (0, .ref m0), (1, .int (nI a_1)), (2, .int (nI b_2)), (3, .int (nI e_3)), (4, .int (nI d_4))]) hx hb dX9_lacking_84 hl (k := 1) rfl (my_incN ct 1 (by decide +kernel)) (by decide) rfl (fun ls hl => ?_)
                  refine lv_iinc (v := nI (v + 1)) (lv' := [(6, .int (nI (v + 1))), (5, .int (nI (ct + 1))), (0, .ref m0), (1, .int (nI a_1)), (2, .int (nI b_2)), (3, .int (nI e_3)), (4, .int (nI d_4))]) hx hb dX9_lacking_87 hl (k := 1) rfl (my_incN v 1 (by decide +kernel)) (by decide) rfl (fun ls hl => ?_)
                  refine lv_goto (tgt := 30) hx hb dX9_lacking_90 (by decide) ?_
                  exact ih30  (v + 1) (ct + 1) m_told_15 mr_16 (by omega) (by first | assumption | omega | decide +kernel) (by first | assumption | omega | decide +kernel) (by first | assumption | omega | decide +kernel) (by first | assumption | omega | decide +kernel) (by first | assumption | omega | decide +kernel) (by first | assumption | omega | decide +kernel) _ _ ls hP hD hS (lv_sub hl [0, 1, 2, 3, 4, 5, 6] rfl)
      exact loop30 ((256 - 0) + 1) 0 0 0 mr (Nat.lt_succ_self _) (by first | assumption | omega | decide +kernel) (by first | assumption | omega | decide +kernel) (by first | assumption | omega | decide +kernel) (by first | assumption | omega | decide +kernel) (by first | assumption | omega | decide +kernel) (by first | assumption | omega | decide +kernel) _ _ ls hP hD hS (lv_sub hl [0, 1, 2, 3, 4, 5, 6] rfl)
    ·
      exact absurd c14 (by decide +kernel)
  ·
    obtain ⟨hP, hD⟩ := hPD rfl
    have hP : va_P D vwCl (wl_k_X9_lacking cI cJ cK m0 a_row a_tape a_number a_read a_readBits a_stands a_parted a_bitsWere a_stood a_chosen a_bestChosen a_often a_sorted a_risen a_risenWays 0 (nI m_told) (nI m_taped) (nI m_at) (nI m_to) (nI m_many) (nI m_readMany) m_fewest (nI m_size) mn mf mr) H := hP
    have hD : va_D A (wl_k_X9_lacking cI cJ cK m0 a_row a_tape a_number a_read a_readBits a_stands a_parted a_bitsWere a_stood a_chosen a_bestChosen a_often a_sorted a_risen a_risenWays 0 (nI m_told) (nI m_taped) (nI m_at) (nI m_to) (nI m_many) (nI m_readMany) m_fewest (nI m_size) mn mf mr) := hD
    refine lv_if_ne (tgt := 19) hx hb dX9_lacking_14 (by decide) (fun c14 => ?_) (fun c14 => ?_)
    ·
      exact absurd c14 (by decide +kernel)
    ·
      refine lv_iconst (v := (-1)) hx hb dX9_lacking_17 (by decide +kernel) ?_
      exact my_retI hx hb hr hlocks hK hS (wl_k_X9_lacking cI cJ cK m0 a_row a_tape a_number a_read a_readBits a_stands a_parted a_bitsWere a_stood a_chosen a_bestChosen a_often a_sorted a_risen a_risenWays 0 (nI m_told) (nI m_taped) (nI m_at) (nI m_to) (nI m_many) (nI m_readMany) m_fewest (nI m_size) mn mf mr) hP hD (⟨0, m_told, mf, mr, rfl, (by first | assumption | omega | trivial | decide +kernel)⟩) dX9_lacking_18
abbrev wl_k_X9_both (cI cJ cK : ClassId) (m0 : Nat) (a_row : Nat) (a_tape : Nat) (a_number : Nat) (a_read : Nat) (a_readBits : Nat) (a_stands : Nat) (a_parted : Nat) (a_bitsWere : Nat) (a_stood : Nat) (a_chosen : Nat) (a_bestChosen : Nat) (a_often : Nat) (a_sorted : Nat) (a_risen : Nat) (a_risenWays : Nat) (v0_ : Int32) (v1_ : Int32) (v2_ : Int32) (v3_ : Int32) (v4_ : Int32) (v5_ : Int32) (v6_ : Int32) (v7_ : Int32) (v8_ : Int32) (v9_ : Nat → Int32) (v10_ : Nat → Int32) (v11_ : Nat → Int64) : va_W := [(m0, .inr (9, [.int v0_, .int v1_, .ref a_row, .ref a_tape, .int v2_, .int v3_, .int v4_, .int v5_, .ref a_number, .ref a_read, .int v6_, .ref a_readBits, .ref a_stands, .ref a_parted, .ref a_bitsWere, .ref a_stood, .ref a_chosen, .ref a_bestChosen, .int v7_, .ref a_often, .ref a_sorted, .int v8_, .ref a_risen, .ref a_risenWays])), (a_number, .inl (cI, 64, .inl v9_)), (a_often, .inl (cI, 512, .inl v10_)), (a_row, .inl (cJ, 64, .inr (.inl v11_)))]
set_option maxHeartbeats 4000000 in
set_option maxRecDepth 100000 in
theorem k_X9_both (l : Launch) (D : va_G) (cI cJ cK : ClassId) (m0 : Nat) (a_row : Nat) (a_tape : Nat) (a_number : Nat) (a_read : Nat) (a_readBits : Nat) (a_stands : Nat) (a_parted : Nat) (a_bitsWere : Nat) (a_stood : Nat) (a_chosen : Nat) (a_bestChosen : Nat) (a_often : Nat) (a_sorted : Nat) (a_risen : Nat) (a_risenWays : Nat) (m_thrown : Int32) (m_told : Nat) (m_taped : Nat) (m_at : Nat) (m_to : Nat) (m_many : Nat) (m_readMany : Nat) (m_fewest : Int32) (m_size : Nat) (mn : Nat → Int32) (mf : Nat → Int32) (mr : Nat → Int64) (l9 : Int32) (r9 : Int32) (s9 : Int32) (t9 : Int32) (k9 : Int32) (hz_m_told : m_told ≤ 64) (hz_m_taped : m_taped ≤ 100) (hz_m_at : m_at ≤ 100) (hz_m_to : m_to ≤ 100) (hz_m_many : m_many ≤ 64) (hz_m_readMany : m_readMany ≤ 64) (hz_m_size : m_size ≤ 64) (hR_mn : RB 0 255 mn) : ctI l yX9_both wsX9_both ({ frames := 2, cells := 0, slots := 0, locals := 120 } : Room) D (tyIJ cI cJ cK) [.ref m0, .int l9, .int r9, .int s9, .int t9, .int k9] (wl_k_X9_both cI cJ cK m0 a_row a_tape a_number a_read a_readBits a_stands a_parted a_bitsWere a_stood a_chosen a_bestChosen a_often a_sorted a_risen a_risenWays m_thrown (nI m_told) (nI m_taped) (nI m_at) (nI m_to) (nI m_many) (nI m_readMany) m_fewest (nI m_size) mn mf mr) (fun (r : Int32) (u : va_W) => ∃ (m_thrown' : Int32) (m_told' : Nat) (mf' : Nat → Int32) (mr' : Nat → Int64), u = (wl_k_X9_both cI cJ cK m0 a_row a_tape a_number a_read a_readBits a_stands a_parted a_bitsWere a_stood a_chosen a_bestChosen a_often a_sorted a_risen a_risenWays m_thrown' (nI m_told') (nI m_taped) (nI m_at) (nI m_to) (nI m_many) (nI m_readMany) m_fewest (nI m_size) mn mf' mr') ∧ m_told' ≤ 64) := by
  refine ctI.of (cc := cX9_both) (maxL := 9) (ret := (some .int)) (by decide) rfl (Nat.le_of_ble_eq_true rfl) ?_
  intro p e s m below meth c ls A hx hb hr hts hown hml hlocks hname hA hK hN hP hD hS hl
  have hl : lv_has ls 9 [(0, .ref m0), (1, .int l9), (2, .int r9), (3, .int s9), (4, .int t9), (5, .int k9)] := hl
  have hown : s.vm.findClass RX9 = some m.cls := hown
  have hi9 : ∀ w ∈ u_ws RX9 TX9 24, w ∈ wsX9_both := by decide +kernel
  have fl1 := hts (.fieldLink RX9 1 "PlaneColumnModel" "thrown" "I") (by decide +kernel)
  have fl11 := hts (.fieldLink RX9 11 "PlaneColumnModel" "told" "I") (by decide +kernel)
  refine lv_aload_n hx hb dX9_both_0 rfl (lv_at hl 0 rfl) ?_
  refine lv_iconst (v := 0) hx hb dX9_both_1 (by decide +kernel) ?_
  refine va_put (ci := 9) (v := .int 0) (ty := (.int)) (C := RX9) (T := TX9) (N := 24) hx hb hts hi9 tyX9 tyX9_ok nmX9 hown hK hP hD hS 0 rfl rfl 0 (by decide) fl1 (fun _ h9 => h9) rfl (by decide +kernel) rfl rfl (Nat.le_of_ble_eq_true rfl) dX9_both_2 (fun H locs hP hD hS => ?_)
  have hP : va_P D vwCl (wl_k_X9_both cI cJ cK m0 a_row a_tape a_number a_read a_readBits a_stands a_parted a_bitsWere a_stood a_chosen a_bestChosen a_often a_sorted a_risen a_risenWays 0 (nI m_told) (nI m_taped) (nI m_at) (nI m_to) (nI m_many) (nI m_readMany) m_fewest (nI m_size) mn mf mr) H := hP
  have hD : va_D A (wl_k_X9_both cI cJ cK m0 a_row a_tape a_number a_read a_readBits a_stands a_parted a_bitsWere a_stood a_chosen a_bestChosen a_often a_sorted a_risen a_risenWays 0 (nI m_told) (nI m_taped) (nI m_at) (nI m_to) (nI m_many) (nI m_readMany) m_fewest (nI m_size) mn mf mr) := hD
  refine lv_aload_n hx hb dX9_both_5 rfl (lv_at hl 0 rfl) ?_
  refine lv_iload_n hx hb dX9_both_6 rfl (lv_at hl 1 rfl) ?_
  refine lv_iload_n hx hb dX9_both_7 rfl (lv_at hl 2 rfl) ?_
  refine my_gpI (my_pV (As := [.int l9, .int r9]) (rest := []) (ci := 9) ⟨hx, hb, hml, hown, hts⟩ (cwV 2 hts gX9_both_X9_isSpan rfl rfl rfl (by decide +kernel) ⟨Nat.le_of_ble_eq_true rfl, Nat.le_of_ble_eq_true rfl⟩) hN hK hP [0] rfl 0 rfl rfl rfl rfl hl.1 rfl (Nat.le_of_ble_eq_true rfl) dX9_both_8 ⟨Nat.le_of_ble_eq_true rfl, Nat.le_of_ble_eq_true rfl⟩  (k_X9_isSpan l D cI cJ cK m0 a_row a_tape a_number a_read a_readBits a_stands a_parted a_bitsWere a_stood a_chosen a_bestChosen a_often a_sorted a_risen a_risenWays (0 : Int32) m_told m_taped m_at m_to m_many m_readMany m_fewest m_size l9 r9 (by first | assumption | omega | decide +kernel) (by first | assumption | omega | decide +kernel) (by first | assumption | omega | decide +kernel) (by first | assumption | omega | decide +kernel) (by first | assumption | omega | decide +kernel) (by first | assumption | omega | decide +kernel) (by first | assumption | omega | decide +kernel))) (fun r hp => ?_)
  rcases hp with ⟨a_1, b_2, rfl, rfl, rfl, ha_3, hb_4⟩ | ⟨rfl, ho_5⟩
  ·
    refine lv_if_eq (tgt := 29) hx hb dX9_both_11 (by decide) (fun c11 => ?_) (fun c11 => ?_)
    ·
      exact absurd c11 (by decide +kernel)
    ·
      refine lv_aload_n hx hb dX9_both_14 rfl (lv_at hl 0 rfl) ?_
      refine lv_iload_n hx hb dX9_both_15 rfl (lv_at hl 3 rfl) ?_
      refine lv_iload hx hb dX9_both_16 (lv_at hl 4 rfl) ?_
      refine my_gpI (my_pV (As := [.int s9, .int t9]) (rest := []) (ci := 9) ⟨hx, hb, hml, hown, hts⟩ (cwV 2 hts gX9_both_X9_isSpan rfl rfl rfl (by decide +kernel) ⟨Nat.le_of_ble_eq_true rfl, Nat.le_of_ble_eq_true rfl⟩) hN hK hP [0] rfl 0 rfl rfl rfl rfl hl.1 rfl (Nat.le_of_ble_eq_true rfl) dX9_both_18 ⟨Nat.le_of_ble_eq_true rfl, Nat.le_of_ble_eq_true rfl⟩  (k_X9_isSpan l D cI cJ cK m0 a_row a_tape a_number a_read a_readBits a_stands a_parted a_bitsWere a_stood a_chosen a_bestChosen a_often a_sorted a_risen a_risenWays (0 : Int32) m_told m_taped m_at m_to m_many m_readMany m_fewest m_size s9 t9 (by first | assumption | omega | decide +kernel) (by first | assumption | omega | decide +kernel) (by first | assumption | omega | decide +kernel) (by first | assumption | omega | decide +kernel) (by first | assumption | omega | decide +kernel) (by first | assumption | omega | decide +kernel) (by first | assumption | omega | decide +kernel))) (fun r hp => ?_)
      rcases hp with ⟨a_6, b_7, rfl, rfl, rfl, ha_8, hb_9⟩ | ⟨rfl, ho_10⟩
      ·
        refine lv_if_eq (tgt := 29) hx hb dX9_both_21 (by decide) (fun c21 => ?_) (fun c21 => ?_)
        ·
          exact absurd c21 (by decide +kernel)
        ·
          refine lv_iload hx hb dX9_both_24 (lv_at hl 5 rfl) ?_
          refine lv_if_ge (tgt := 31) hx hb dX9_both_26 (by decide) (fun c26 => ?_) (fun c26 => ?_)
          ·
            have d26 : k9.toInt ≥ (0 : Int) := my_ge c26 rfl (by decide +kernel)
            obtain ⟨w_11, rfl, hw_11⟩ := my_natP (x := k9) (by omega)
            have hlw_11 : w_11 < 2147483648 := by have h9 := Int32.toInt_lt (nI w_11); omega
            refine lv_iload hx hb dX9_both_31 (lv_at hl 5 rfl) ?_
            refine lv_iload_n hx hb dX9_both_33 rfl (lv_at hl 2 rfl) ?_
            refine lv_iload_n hx hb dX9_both_34 rfl (lv_at hl 1 rfl) ?_
            refine lv_isub hx hb dX9_both_35 ?_
            refine lv_topi (fun z_12 ez_12 => ?_)
            try have tz_12 : z_12.toInt = ((b_2 : Nat) : Int) - ((a_1 : Nat) : Int) := by rw [ez_12]; exact my_subI (nI_toInt (by omega)) (nI_toInt (by omega)) (by omega) (by omega)
            refine lv_iload hx hb dX9_both_36 (lv_at hl 4 rfl) ?_
            refine lv_iadd hx hb dX9_both_38 ?_
            refine lv_topi (fun z_13 ez_13 => ?_)
            try have tz_13 : z_13.toInt = z_12.toInt + ((b_7 : Nat) : Int) := by rw [ez_13]; exact my_addI rfl (nI_toInt (by omega)) (by omega) (by omega)
            refine lv_iload_n hx hb dX9_both_39 rfl (lv_at hl 3 rfl) ?_
            refine lv_isub hx hb dX9_both_40 ?_
            refine lv_topi (fun z_14 ez_14 => ?_)
            try have tz_14 : z_14.toInt = z_13.toInt - ((a_6 : Nat) : Int) := by rw [ez_14]; exact my_subI rfl (nI_toInt (by omega)) (by omega) (by omega)
            refine lv_icmp_lt (tgt := 47) hx hb dX9_both_41 (by decide) (fun c41 => ?_) (fun c41 => ?_)
            ·
              have d41 : ((w_11 : Nat) : Int) < z_14.toInt := my_lt c41 (nI_toInt (by omega)) rfl
              refine lv_aload_n hx hb dX9_both_47 rfl (lv_at hl 0 rfl) ?_
              refine lv_iload_n hx hb dX9_both_48 rfl (lv_at hl 1 rfl) ?_
              refine lv_iload_n hx hb dX9_both_49 rfl (lv_at hl 2 rfl) ?_
              refine lv_iload_n hx hb dX9_both_50 rfl (lv_at hl 3 rfl) ?_
              refine lv_iload hx hb dX9_both_51 (lv_at hl 4 rfl) ?_
              refine my_goIS (wc := (wl_k_X9_counts_ cI cJ cK m0 a_row a_tape a_number a_read a_readBits a_stands a_parted a_bitsWere a_stood a_chosen a_bestChosen a_often a_sorted a_risen a_risenWays 0 (nI m_told) (nI m_taped) (nI m_at) (nI m_to) (nI m_many) (nI m_readMany) m_fewest (nI m_size) mn mf)) hP hD hS hA [0, 1, 2] rfl [some 0, some 1, some 2] (by decide +kernel) (my_cV (As := [.int (nI a_1), .int (nI b_2), .int (nI a_6), .int (nI b_7)]) (rest := []) (ci := 9) (wc := (wl_k_X9_counts_ cI cJ cK m0 a_row a_tape a_number a_read a_readBits a_stands a_parted a_bitsWere a_stood a_chosen a_bestChosen a_often a_sorted a_risen a_risenWays 0 (nI m_told) (nI m_taped) (nI m_at) (nI m_to) (nI m_many) (nI m_readMany) m_fewest (nI m_size) mn mf)) ⟨hx, hb, hml, hown, hts⟩ (cwV 4 hts gX9_both_X9_counts_ rfl rfl rfl (by decide +kernel) ⟨Nat.le_of_ble_eq_true rfl, Nat.le_of_ble_eq_true rfl⟩) hN hK hP hD [0, 1, 2] rfl (by decide) rfl 0 rfl rfl rfl rfl hl.1 rfl (Nat.le_of_ble_eq_true rfl) dX9_both_53 ⟨Nat.le_of_ble_eq_true rfl, Nat.le_of_ble_eq_true rfl⟩  ((k_X9_counts_ l D cI cJ cK m0 a_row a_tape a_number a_read a_readBits a_stands a_parted a_bitsWere a_stood a_chosen a_bestChosen a_often a_sorted a_risen a_risenWays (0 : Int32) m_told m_taped m_at m_to m_many m_readMany m_fewest m_size mn mf (nI a_1) ((a_1 : Nat) : Int) (nI_toInt (by omega)) (nI b_2) ((b_2 : Nat) : Int) (nI_toInt (by omega)) (nI a_6) ((a_6 : Nat) : Int) (nI_toInt (by omega)) (nI b_7) ((b_7 : Nat) : Int) (nI_toInt (by omega)) (by first | assumption | omega | decide +kernel) (by first | assumption | omega | decide +kernel) (by first | assumption | omega | decide +kernel) (by first | assumption | omega | decide +kernel) (by first | assumption | omega | decide +kernel) (by first | assumption | omega | decide +kernel) (by first | assumption | omega | decide +kernel) hR_mn) _)) (fun r u H locs hp hPD hS => ?_)
              rcases hp with ⟨a_15, b_16, e_17, d_18, mf_19, rfl, rfl, en_20, en_21, en_22, en_23, hx1_24, hx2_25, hx3_26, hx4_27, hcn0, hcn1⟩ | ⟨rfl, rfl, ho_28⟩
              ·
                obtain rfl : a_1 = a_15 := (nI_eq (by omega) (by omega)).mp en_20
                obtain rfl : b_2 = b_16 := (nI_eq (by omega) (by omega)).mp en_21
                obtain rfl : a_6 = e_17 := (nI_eq (by omega) (by omega)).mp en_22
                obtain rfl : b_7 = d_18 := (nI_eq (by omega) (by omega)).mp en_23
                obtain ⟨hP, hD⟩ := hPD rfl
                have hP : va_P D vwCl (wl_k_X9_both cI cJ cK m0 a_row a_tape a_number a_read a_readBits a_stands a_parted a_bitsWere a_stood a_chosen a_bestChosen a_often a_sorted a_risen a_risenWays 0 (nI m_told) (nI m_taped) (nI m_at) (nI m_to) (nI m_many) (nI m_readMany) m_fewest (nI m_size) mn mf_19 mr) H := hP
                have hD : va_D A (wl_k_X9_both cI cJ cK m0 a_row a_tape a_number a_read a_readBits a_stands a_parted a_bitsWere a_stood a_chosen a_bestChosen a_often a_sorted a_risen a_risenWays 0 (nI m_told) (nI m_taped) (nI m_at) (nI m_to) (nI m_many) (nI m_readMany) m_fewest (nI m_size) mn mf_19 mr) := hD
                refine lv_istore (lv' := [(6, .int 1), (0, .ref m0), (1, .int (nI a_1)), (2, .int (nI b_2)), (3, .int (nI a_6)), (4, .int (nI b_7)), (5, .int (nI w_11))]) hx hb dX9_both_56 hl (by decide) rfl (fun ls hl => ?_)
                refine lv_iload hx hb dX9_both_58 (lv_at hl 6 rfl) ?_
                refine lv_istore (lv' := [(7, .int (nI w_11)), (6, .int 1), (0, .ref m0), (1, .int (nI a_1)), (2, .int (nI b_2)), (3, .int (nI a_6)), (4, .int (nI b_7)), (5, .int (nI w_11))]) hx hb dX9_both_60 hl (by decide) rfl (fun ls hl => ?_)
                refine lv_iconst (v := 0) hx hb dX9_both_62 (by decide +kernel) ?_
                refine lv_istore (lv' := [(8, .int 0), (7, .int (nI w_11)), (6, .int 1), (0, .ref m0), (1, .int (nI a_1)), (2, .int (nI b_2)), (3, .int (nI a_6)), (4, .int (nI b_7)), (5, .int (nI w_11))]) hx hb dX9_both_63 hl (by decide) rfl (fun ls hl => ?_)
                have loop65 : ∀ (n9 : Nat) (u : Nat) (ct : Nat), 256 - u < n9 → (ct ≤ 128) → (u ≤ 255) → (ct + fb_sm (fun u => cn mn u a_1 b_2 + cn mn u a_6 b_7) u = w_11) → ∀ (H : Heap) (locs : List Loc) (ls : Array Slot), va_P D vwCl (wl_k_X9_both cI cJ cK m0 a_row a_tape a_number a_read a_readBits a_stands a_parted a_bitsWere a_stood a_chosen a_bestChosen a_often a_sorted a_risen a_risenWays 0 (nI m_told) (nI m_taped) (nI m_at) (nI m_to) (nI m_many) (nI m_readMany) m_fewest (nI m_size) mn mf_19 mr) H → va_D A (wl_k_X9_both cI cJ cK m0 a_row a_tape a_number a_read a_readBits a_stands a_parted a_bitsWere a_stood a_chosen a_bestChosen a_often a_sorted a_risen a_risenWays 0 (nI m_told) (nI m_taped) (nI m_at) (nI m_to) (nI m_many) (nI m_readMany) m_fewest (nI m_size) mn mf_19 mr) → va_S A s.heap H locs → lv_has ls 9 [(8, .int (nI u)), (7, .int (nI ct)), (6, .int 1), (0, .ref m0), (1, .int (nI a_1)), (2, .int (nI b_2)), (3, .int (nI a_6)), (4, .int (nI b_7)), (5, .int (nI w_11))] → W p l e ({ frames := 2, cells := 0, slots := 0, locals := 120 } : Room) s m [.ref m0, .int (nI a_1), .int (nI b_2), .int (nI a_6), .int (nI b_7), .int (nI w_11)].toArray below meth c H locs 0 0 (MQ below (va_Qi (fun (r : Int32) (u : va_W) => ∃ (m_thrown' : Int32) (m_told' : Nat) (mf' : Nat → Int32) (mr' : Nat → Int64), u = (wl_k_X9_both cI cJ cK m0 a_row a_tape a_number a_read a_readBits a_stands a_parted a_bitsWere a_stood a_chosen a_bestChosen a_often a_sorted a_risen a_risenWays m_thrown' (nI m_told') (nI m_taped) (nI m_at) (nI m_to) (nI m_many) (nI m_readMany) m_fewest (nI m_size) mn mf' mr') ∧ m_told' ≤ 64) (my_B D (tyIJ cI cJ cK) A) A) [.ref m0, .int (nI a_1), .int (nI b_2), .int (nI a_6), .int (nI b_7), .int (nI w_11)].toArray s 0 0 A) (F0 m 65 ls []) := by
                  intro n9
                  induction n9 with
                  | zero =>
                    intro u ct hn9
                    exact absurd hn9 (Nat.not_lt_zero _)
                  | succ n9 ih65 =>
                    intro u ct hn9 hk_ct hk_u hsum H locs ls hP hD hS hl
                    have hall := bo_sum hR_mn (a := a_1) (b := b_2) (e := a_6) (d := b_7) (by omega) (by omega)
                    have hpt := fb_sm_part (fun u => cn mn u a_1 b_2 + cn mn u a_6 b_7) (i := u) (n := 256) (by omega)
                    have htm := cn_times hcn0 (v := u) (by omega) (by omega)
                    have htn := cn_times1 hcn1 (v := u) (by omega) (by omega)
                    have hsc := fb_sm_succ (fun u => cn mn u a_1 b_2 + cn mn u a_6 b_7) u
                    have h255 : u = 255 → fb_sm (fun u => cn mn u a_1 b_2 + cn mn u a_6 b_7) 256 = fb_sm (fun u => cn mn u a_1 b_2 + cn mn u a_6 b_7) u + (cn mn u a_1 b_2 + cn mn u a_6 b_7) := fun h => by rw [h]; exact fb_sm_succ _ 255
                    refine lv_aload_n hx hb dX9_both_65 rfl (lv_at hl 3 rfl) ?_
                    refine lv_iconst (v := 0) hx hb dX9_both_66 (by decide +kernel) ?_
                    refine lv_iload hx hb dX9_both_67 (lv_at hl 0 rfl) ?_
                    refine my_gpI (my_pV (As := [.int 0, .int (nI u)]) (rest := []) (ci := 9) ⟨hx, hb, hml, hown, hts⟩ (cwV 2 hts gX9_both_X9_times rfl rfl rfl (by decide +kernel) ⟨Nat.le_of_ble_eq_true rfl, Nat.le_of_ble_eq_true rfl⟩) hN hK hP [0, 2] rfl 0 rfl rfl rfl rfl hl.1 rfl (Nat.le_of_ble_eq_true rfl) dX9_both_69 ⟨Nat.le_of_ble_eq_true rfl, Nat.le_of_ble_eq_true rfl⟩  (k0_X9_times l D cI cJ cK m0 a_row a_tape a_number a_read a_readBits a_stands a_parted a_bitsWere a_stood a_chosen a_bestChosen a_often a_sorted a_risen a_risenWays (0 : Int32) m_told m_taped m_at m_to m_many m_readMany m_fewest m_size mf_19 u (by first | assumption | omega | decide +kernel) (by first | assumption | omega | decide +kernel) (by first | assumption | omega | decide +kernel) (by first | assumption | omega | decide +kernel) (by first | assumption | omega | decide +kernel) (by first | assumption | omega | decide +kernel) (by first | assumption | omega | decide +kernel) (by first | assumption | omega | decide +kernel))) (fun r hp => ?_)
                    obtain rfl := hp
                    refine lv_aload_n hx hb dX9_both_72 rfl (lv_at hl 3 rfl) ?_
                    refine lv_iconst (v := 1) hx hb dX9_both_73 (by decide +kernel) ?_
                    refine lv_iload hx hb dX9_both_74 (lv_at hl 0 rfl) ?_
                    refine my_gpI (my_pV (As := [.int 1, .int (nI u)]) (rest := [.int (mf_19 u)]) (ci := 9) ⟨hx, hb, hml, hown, hts⟩ (cwV 2 hts gX9_both_X9_times rfl rfl rfl (by decide +kernel) ⟨Nat.le_of_ble_eq_true rfl, Nat.le_of_ble_eq_true rfl⟩) hN hK hP [0, 2] rfl 0 rfl rfl rfl rfl hl.1 rfl (Nat.le_of_ble_eq_true rfl) dX9_both_76 ⟨Nat.le_of_ble_eq_true rfl, Nat.le_of_ble_eq_true rfl⟩  (k1_X9_times l D cI cJ cK m0 a_row a_tape a_number a_read a_readBits a_stands a_parted a_bitsWere a_stood a_chosen a_bestChosen a_often a_sorted a_risen a_risenWays (0 : Int32) m_told m_taped m_at m_to m_many m_readMany m_fewest m_size mf_19 u (by first | assumption | omega | decide +kernel) (by first | assumption | omega | decide +kernel) (by first | assumption | omega | decide +kernel) (by first | assumption | omega | decide +kernel) (by first | assumption | omega | decide +kernel) (by first | assumption | omega | decide +kernel) (by first | assumption | omega | decide +kernel) (by first | assumption | omega | decide +kernel))) (fun r hp => ?_)
                    obtain rfl := hp
                    refine lv_iadd hx hb dX9_both_79 ?_
                    refine lv_topi (fun z_29 ez_29 => ?_)
                    try have tz_29 : z_29.toInt = (mf_19 u).toInt + (mf_19 (u + 256)).toInt := by rw [ez_29]; exact my_addI rfl rfl (by omega) (by omega)
                    refine lv_iload hx hb dX9_both_80 (lv_at hl 1 rfl) ?_
                    refine lv_icmp_gt (tgt := 111) hx hb dX9_both_82 (by decide) (fun c82 => ?_) (fun c82 => ?_)
                    ·
                      have d82 : z_29.toInt > ((ct : Nat) : Int) := my_gt c82 rfl (nI_toInt (by omega))
                      refine lv_aload_n hx hb dX9_both_111 rfl (lv_at hl 3 rfl) ?_
                      refine lv_iconst (v := 0) hx hb dX9_both_112 (by decide +kernel) ?_
                      refine va_put (ci := 9) (v := .int 0) (ty := (.int)) (C := RX9) (T := TX9) (N := 24) hx hb hts hi9 tyX9 tyX9_ok nmX9 hown hK hP hD hS 0 rfl rfl 1 (by decide) fl11 (fun _ h9 => h9) rfl (by decide +kernel) rfl rfl (Nat.le_of_ble_eq_true rfl) dX9_both_113 (fun H locs hP hD hS => ?_)
                      have hP : va_P D vwCl (wl_k_X9_both cI cJ cK m0 a_row a_tape a_number a_read a_readBits a_stands a_parted a_bitsWere a_stood a_chosen a_bestChosen a_often a_sorted a_risen a_risenWays 0 0 (nI m_taped) (nI m_at) (nI m_to) (nI m_many) (nI m_readMany) m_fewest (nI m_size) mn mf_19 mr) H := hP
                      have hD : va_D A (wl_k_X9_both cI cJ cK m0 a_row a_tape a_number a_read a_readBits a_stands a_parted a_bitsWere a_stood a_chosen a_bestChosen a_often a_sorted a_risen a_risenWays 0 0 (nI m_taped) (nI m_at) (nI m_to) (nI m_many) (nI m_readMany) m_fewest (nI m_size) mn mf_19 mr) := hD
                      refine lv_aload_n hx hb dX9_both_116 rfl (lv_at hl 3 rfl) ?_
                      refine lv_aload_n hx hb dX9_both_117 rfl (lv_at hl 3 rfl) ?_
                      refine lv_iconst (v := 0) hx hb dX9_both_118 (by decide +kernel) ?_
                      refine lv_iload hx hb dX9_both_119 (lv_at hl 0 rfl) ?_
                      refine my_gpI (my_pV (As := [.int 0, .int (nI u)]) (rest := [.ref m0]) (ci := 9) ⟨hx, hb, hml, hown, hts⟩ (cwV 2 hts gX9_both_X9_times rfl rfl rfl (by decide +kernel) ⟨Nat.le_of_ble_eq_true rfl, Nat.le_of_ble_eq_true rfl⟩) hN hK hP [0, 2] rfl 0 rfl rfl rfl rfl hl.1 rfl (Nat.le_of_ble_eq_true rfl) dX9_both_121 ⟨Nat.le_of_ble_eq_true rfl, Nat.le_of_ble_eq_true rfl⟩  (k0_X9_times l D cI cJ cK m0 a_row a_tape a_number a_read a_readBits a_stands a_parted a_bitsWere a_stood a_chosen a_bestChosen a_often a_sorted a_risen a_risenWays (0 : Int32) 0 m_taped m_at m_to m_many m_readMany m_fewest m_size mf_19 u (by first | assumption | omega | decide +kernel) (by first | assumption | omega | decide +kernel) (by first | assumption | omega | decide +kernel) (by first | assumption | omega | decide +kernel) (by first | assumption | omega | decide +kernel) (by first | assumption | omega | decide +kernel) (by first | assumption | omega | decide +kernel) (by first | assumption | omega | decide +kernel))) (fun r hp => ?_)
                      obtain rfl := hp
                      refine lv_i2l (v := (mf_19 u).toInt64) hx hb dX9_both_124 rfl ?_
                      refine my_goVS (wc := (wl_k_X9_enters cI cJ cK m0 a_row a_tape a_number a_read a_readBits a_stands a_parted a_bitsWere a_stood a_chosen a_bestChosen a_often a_sorted a_risen a_risenWays 0 0 (nI m_taped) (nI m_at) (nI m_to) (nI m_many) (nI m_readMany) m_fewest (nI m_size) mr)) hP hD hS hA [0, 3] rfl [some 0, none, none, some 1] (by decide +kernel) (my_cV (As := [.long ((mf_19 u).toInt64)]) (rest := []) (ci := 9) (wc := (wl_k_X9_enters cI cJ cK m0 a_row a_tape a_number a_read a_readBits a_stands a_parted a_bitsWere a_stood a_chosen a_bestChosen a_often a_sorted a_risen a_risenWays 0 0 (nI m_taped) (nI m_at) (nI m_to) (nI m_many) (nI m_readMany) m_fewest (nI m_size) mr)) ⟨hx, hb, hml, hown, hts⟩ (cwV 1 hts gX9_both_X9_enters rfl rfl rfl (by decide +kernel) ⟨Nat.le_of_ble_eq_true rfl, Nat.le_of_ble_eq_true rfl⟩) hN hK hP hD [0, 3] rfl (by decide) rfl 0 rfl rfl rfl rfl hl.1 rfl (Nat.le_of_ble_eq_true rfl) dX9_both_125 ⟨Nat.le_of_ble_eq_true rfl, Nat.le_of_ble_eq_true rfl⟩  ((k_X9_enters l D cI cJ cK m0 a_row a_tape a_number a_read a_readBits a_stands a_parted a_bitsWere a_stood a_chosen a_bestChosen a_often a_sorted a_risen a_risenWays (0 : Int32) 0 m_taped m_at m_to m_many m_readMany m_fewest m_size mr ((mf_19 u).toInt64) (by first | assumption | omega | decide +kernel) (by first | assumption | omega | decide +kernel) (by first | assumption | omega | decide +kernel) (by first | assumption | omega | decide +kernel) (by first | assumption | omega | decide +kernel) (by first | assumption | omega | decide +kernel) (by first | assumption | omega | decide +kernel) (by first | assumption | omega | decide +kernel)) _)) (fun u H locs hp hPD hS => ?_)
                      obtain ⟨m_told_30, mr_31, rfl, hhz_m_told_32, ht_33⟩ := hp
                      obtain ⟨hP, hD⟩ := hPD rfl
                      have hP : va_P D vwCl (wl_k_X9_both cI cJ cK m0 a_row a_tape a_number a_read a_readBits a_stands a_parted a_bitsWere a_stood a_chosen a_bestChosen a_often a_sorted a_risen a_risenWays 0 (nI m_told_30) (nI m_taped) (nI m_at) (nI m_to) (nI m_many) (nI m_readMany) m_fewest (nI m_size) mn mf_19 mr_31) H := hP
                      have hD : va_D A (wl_k_X9_both cI cJ cK m0 a_row a_tape a_number a_read a_readBits a_stands a_parted a_bitsWere a_stood a_chosen a_bestChosen a_often a_sorted a_risen a_risenWays 0 (nI m_told_30) (nI m_taped) (nI m_at) (nI m_to) (nI m_many) (nI m_readMany) m_fewest (nI m_size) mn mf_19 mr_31) := hD
                      refine lv_aload_n hx hb dX9_both_128 rfl (lv_at hl 3 rfl) ?_
                      refine lv_aload_n hx hb dX9_both_129 rfl (lv_at hl 3 rfl) ?_
                      refine lv_iconst (v := 1) hx hb dX9_both_130 (by decide +kernel) ?_
                      refine lv_iload hx hb dX9_both_131 (lv_at hl 0 rfl) ?_
                      refine my_gpI (my_pV (As := [.int 1, .int (nI u)]) (rest := [.ref m0]) (ci := 9) ⟨hx, hb, hml, hown, hts⟩ (cwV 2 hts gX9_both_X9_times rfl rfl rfl (by decide +kernel) ⟨Nat.le_of_ble_eq_true rfl, Nat.le_of_ble_eq_true rfl⟩) hN hK hP [0, 2] rfl 0 rfl rfl rfl rfl hl.1 rfl (Nat.le_of_ble_eq_true rfl) dX9_both_133 ⟨Nat.le_of_ble_eq_true rfl, Nat.le_of_ble_eq_true rfl⟩  (k1_X9_times l D cI cJ cK m0 a_row a_tape a_number a_read a_readBits a_stands a_parted a_bitsWere a_stood a_chosen a_bestChosen a_often a_sorted a_risen a_risenWays (0 : Int32) m_told_30 m_taped m_at m_to m_many m_readMany m_fewest m_size mf_19 u (by first | assumption | omega | decide +kernel) (by first | assumption | omega | decide +kernel) (by first | assumption | omega | decide +kernel) (by first | assumption | omega | decide +kernel) (by first | assumption | omega | decide +kernel) (by first | assumption | omega | decide +kernel) (by first | assumption | omega | decide +kernel) (by first | assumption | omega | decide +kernel))) (fun r hp => ?_)
                      obtain rfl := hp
                      refine lv_i2l (v := (mf_19 (u + 256)).toInt64) hx hb dX9_both_136 rfl ?_
                      refine my_goVS (wc := (wl_k_X9_enters cI cJ cK m0 a_row a_tape a_number a_read a_readBits a_stands a_parted a_bitsWere a_stood a_chosen a_bestChosen a_often a_sorted a_risen a_risenWays 0 (nI m_told_30) (nI m_taped) (nI m_at) (nI m_to) (nI m_many) (nI m_readMany) m_fewest (nI m_size) mr_31)) hP hD hS hA [0, 3] rfl [some 0, none, none, some 1] (by decide +kernel) (my_cV (As := [.long ((mf_19 (u + 256)).toInt64)]) (rest := []) (ci := 9) (wc := (wl_k_X9_enters cI cJ cK m0 a_row a_tape a_number a_read a_readBits a_stands a_parted a_bitsWere a_stood a_chosen a_bestChosen a_often a_sorted a_risen a_risenWays 0 (nI m_told_30) (nI m_taped) (nI m_at) (nI m_to) (nI m_many) (nI m_readMany) m_fewest (nI m_size) mr_31)) ⟨hx, hb, hml, hown, hts⟩ (cwV 1 hts gX9_both_X9_enters rfl rfl rfl (by decide +kernel) ⟨Nat.le_of_ble_eq_true rfl, Nat.le_of_ble_eq_true rfl⟩) hN hK hP hD [0, 3] rfl (by decide) rfl 0 rfl rfl rfl rfl hl.1 rfl (Nat.le_of_ble_eq_true rfl) dX9_both_137 ⟨Nat.le_of_ble_eq_true rfl, Nat.le_of_ble_eq_true rfl⟩  ((k_X9_enters l D cI cJ cK m0 a_row a_tape a_number a_read a_readBits a_stands a_parted a_bitsWere a_stood a_chosen a_bestChosen a_often a_sorted a_risen a_risenWays (0 : Int32) m_told_30 m_taped m_at m_to m_many m_readMany m_fewest m_size mr_31 ((mf_19 (u + 256)).toInt64) (by first | assumption | omega | decide +kernel) (by first | assumption | omega | decide +kernel) (by first | assumption | omega | decide +kernel) (by first | assumption | omega | decide +kernel) (by first | assumption | omega | decide +kernel) (by first | assumption | omega | decide +kernel) (by first | assumption | omega | decide +kernel) (by first | assumption | omega | decide +kernel)) _)) (fun u H locs hp hPD hS => ?_)
                      obtain ⟨m_told_34, mr_35, rfl, hhz_m_told_36, ht_37⟩ := hp
                      obtain ⟨hP, hD⟩ := hPD rfl
                      have hP : va_P D vwCl (wl_k_X9_both cI cJ cK m0 a_row a_tape a_number a_read a_readBits a_stands a_parted a_bitsWere a_stood a_chosen a_bestChosen a_often a_sorted a_risen a_risenWays 0 (nI m_told_34) (nI m_taped) (nI m_at) (nI m_to) (nI m_many) (nI m_readMany) m_fewest (nI m_size) mn mf_19 mr_35) H := hP
                      have hD : va_D A (wl_k_X9_both cI cJ cK m0 a_row a_tape a_number a_read a_readBits a_stands a_parted a_bitsWere a_stood a_chosen a_bestChosen a_often a_sorted a_risen a_risenWays 0 (nI m_told_34) (nI m_taped) (nI m_at) (nI m_to) (nI m_many) (nI m_readMany) m_fewest (nI m_size) mn mf_19 mr_35) := hD
                      refine lv_iload hx hb dX9_both_140 (lv_at hl 0 rfl) ?_
                      exact my_retI hx hb hr hlocks hK hS (wl_k_X9_both cI cJ cK m0 a_row a_tape a_number a_read a_readBits a_stands a_parted a_bitsWere a_stood a_chosen a_bestChosen a_often a_sorted a_risen a_risenWays 0 (nI m_told_34) (nI m_taped) (nI m_at) (nI m_to) (nI m_many) (nI m_readMany) m_fewest (nI m_size) mn mf_19 mr_35) hP hD (⟨0, m_told_34, mf_19, mr_35, rfl, (by first | assumption | omega | trivial | decide +kernel)⟩) dX9_both_142
                    ·
                      have d82 : z_29.toInt ≤ ((ct : Nat) : Int) := my_ngt c82 rfl (nI_toInt (by omega))
                      refine lv_iload hx hb dX9_both_85 (lv_at hl 1 rfl) ?_
                      refine lv_aload_n hx hb dX9_both_87 rfl (lv_at hl 3 rfl) ?_
                      refine lv_iconst (v := 0) hx hb dX9_both_88 (by decide +kernel) ?_
                      refine lv_iload hx hb dX9_both_89 (lv_at hl 0 rfl) ?_
                      refine my_gpI (my_pV (As := [.int 0, .int (nI u)]) (rest := [.int (nI ct)]) (ci := 9) ⟨hx, hb, hml, hown, hts⟩ (cwV 2 hts gX9_both_X9_times rfl rfl rfl (by decide +kernel) ⟨Nat.le_of_ble_eq_true rfl, Nat.le_of_ble_eq_true rfl⟩) hN hK hP [0, 2] rfl 0 rfl rfl rfl rfl hl.1 rfl (Nat.le_of_ble_eq_true rfl) dX9_both_91 ⟨Nat.le_of_ble_eq_true rfl, Nat.le_of_ble_eq_true rfl⟩  (k0_X9_times l D cI cJ cK m0 a_row a_tape a_number a_read a_readBits a_stands a_parted a_bitsWere a_stood a_chosen a_bestChosen a_often a_sorted a_risen a_risenWays (0 : Int32) m_told m_taped m_at m_to m_many m_readMany m_fewest m_size mf_19 u (by first | assumption | omega | decide +kernel) (by first | assumption | omega | decide +kernel) (by first | assumption | omega | decide +kernel) (by first | assumption | omega | decide +kernel) (by first | assumption | omega | decide +kernel) (by first | assumption | omega | decide +kernel) (by first | assumption | omega | decide +kernel) (by first | assumption | omega | decide +kernel))) (fun r hp => ?_)
                      obtain rfl := hp
                      refine lv_aload_n hx hb dX9_both_94 rfl (lv_at hl 3 rfl) ?_
                      refine lv_iconst (v := 1) hx hb dX9_both_95 (by decide +kernel) ?_
                      refine lv_iload hx hb dX9_both_96 (lv_at hl 0 rfl) ?_
                      refine my_gpI (my_pV (As := [.int 1, .int (nI u)]) (rest := [.int (mf_19 u), .int (nI ct)]) (ci := 9) ⟨hx, hb, hml, hown, hts⟩ (cwV 2 hts gX9_both_X9_times rfl rfl rfl (by decide +kernel) ⟨Nat.le_of_ble_eq_true rfl, Nat.le_of_ble_eq_true rfl⟩) hN hK hP [0, 2] rfl 0 rfl rfl rfl rfl hl.1 rfl (Nat.le_of_ble_eq_true rfl) dX9_both_98 ⟨Nat.le_of_ble_eq_true rfl, Nat.le_of_ble_eq_true rfl⟩  (k1_X9_times l D cI cJ cK m0 a_row a_tape a_number a_read a_readBits a_stands a_parted a_bitsWere a_stood a_chosen a_bestChosen a_often a_sorted a_risen a_risenWays (0 : Int32) m_told m_taped m_at m_to m_many m_readMany m_fewest m_size mf_19 u (by first | assumption | omega | decide +kernel) (by first | assumption | omega | decide +kernel) (by first | assumption | omega | decide +kernel) (by first | assumption | omega | decide +kernel) (by first | assumption | omega | decide +kernel) (by first | assumption | omega | decide +kernel) (by first | assumption | omega | decide +kernel) (by first | assumption | omega | decide +kernel))) (fun r hp => ?_)
                      obtain rfl := hp
                      refine lv_iadd hx hb dX9_both_101 ?_
                      refine lv_topi (fun z_38 ez_38 => ?_)
                      try have tz_38 : z_38.toInt = (mf_19 u).toInt + (mf_19 (u + 256)).toInt := by rw [ez_38]; exact my_addI rfl rfl (by omega) (by omega)
                      refine lv_isub hx hb dX9_both_102 ?_
                      refine lv_topi (fun z_39 ez_39 => ?_)
                      try have tz_39 : z_39.toInt = ((ct : Nat) : Int) - z_38.toInt := by rw [ez_39]; exact my_subI (nI_toInt (by omega)) rfl (by omega) (by omega)
                      obtain ⟨w_40, ew_40, hw_40⟩ : ∃ w : Nat, z_39 = nI w ∧ (w : Int) = (z_39 : Int32).toInt := my_natE (by omega)
                      refine my_eqi (y := nI w_40) ew_40 ?_
                      refine lv_istore (lv' := [(7, .int (nI w_40)), (8, .int (nI u)), (6, .int 1), (0, .ref m0), (1, .int (nI a_1)), (2, .int (nI b_2)), (3, .int (nI a_6)), (4, .int (nI b_7)), (5, .int (nI w_11))]) hx hb dX9_both_103 hl (by decide) rfl (fun ls hl => ?_)
                      refine lv_iinc (v := nI (u + 1)) (lv' := [(8, .int (nI (u + 1))), (7, .int (nI w_40)), (6, .int 1), (0, .ref m0), (1, .int (nI a_1)), (2, .int (nI b_2)), (3, .int (nI a_6)), (4, .int (nI b_7)), (5, .int (nI w_11))]) hx hb dX9_both_105 hl (k := 1) rfl (my_incN u 1 (by decide +kernel)) (by decide) rfl (fun ls hl => ?_)
                      refine lv_goto (tgt := 65) hx hb dX9_both_108 (by decide) ?_
                      exact ih65  (u + 1) w_40 (by omega) (by first | assumption | omega | decide +kernel) (by first | assumption | omega | decide +kernel) (by first | assumption | omega | decide +kernel) _ _ ls hP hD hS (lv_sub hl [0, 1, 2, 3, 4, 5, 6, 7, 8] rfl)
                exact loop65 ((256 - 0) + 1) 0 w_11 (Nat.lt_succ_self _) (by first | assumption | omega | decide +kernel) (by first | assumption | omega | decide +kernel) (by show _ + 0 = _; omega) _ _ ls hP hD hS (lv_sub hl [0, 1, 2, 3, 4, 5, 6, 7, 8] rfl)
              ·
                obtain ⟨hP, hD⟩ := hPD rfl
                have hP : va_P D vwCl (wl_k_X9_both cI cJ cK m0 a_row a_tape a_number a_read a_readBits a_stands a_parted a_bitsWere a_stood a_chosen a_bestChosen a_often a_sorted a_risen a_risenWays 0 (nI m_told) (nI m_taped) (nI m_at) (nI m_to) (nI m_many) (nI m_readMany) m_fewest (nI m_size) mn mf mr) H := hP
                have hD : va_D A (wl_k_X9_both cI cJ cK m0 a_row a_tape a_number a_read a_readBits a_stands a_parted a_bitsWere a_stood a_chosen a_bestChosen a_often a_sorted a_risen a_risenWays 0 (nI m_told) (nI m_taped) (nI m_at) (nI m_to) (nI m_many) (nI m_readMany) m_fewest (nI m_size) mn mf mr) := hD
                exfalso; omega
            ·
              have d41 : ((w_11 : Nat) : Int) ≥ z_14.toInt := my_nlt c41 (nI_toInt (by omega)) rfl
              refine lv_bipush (v := (-2)) hx hb dX9_both_44 (by decide +kernel) ?_
              exact my_retI hx hb hr hlocks hK hS (wl_k_X9_both cI cJ cK m0 a_row a_tape a_number a_read a_readBits a_stands a_parted a_bitsWere a_stood a_chosen a_bestChosen a_often a_sorted a_risen a_risenWays 0 (nI m_told) (nI m_taped) (nI m_at) (nI m_to) (nI m_many) (nI m_readMany) m_fewest (nI m_size) mn mf mr) hP hD (⟨0, m_told, mf, mr, rfl, (by first | assumption | omega | trivial | decide +kernel)⟩) dX9_both_46
          ·
            have d26 : k9.toInt < (0 : Int) := my_nge c26 rfl (by decide +kernel)
            refine lv_iconst (v := (-1)) hx hb dX9_both_29 (by decide +kernel) ?_
            exact my_retI hx hb hr hlocks hK hS (wl_k_X9_both cI cJ cK m0 a_row a_tape a_number a_read a_readBits a_stands a_parted a_bitsWere a_stood a_chosen a_bestChosen a_often a_sorted a_risen a_risenWays 0 (nI m_told) (nI m_taped) (nI m_at) (nI m_to) (nI m_many) (nI m_readMany) m_fewest (nI m_size) mn mf mr) hP hD (⟨0, m_told, mf, mr, rfl, (by first | assumption | omega | trivial | decide +kernel)⟩) dX9_both_30
      ·
        refine lv_if_eq (tgt := 29) hx hb dX9_both_21 (by decide) (fun c21 => ?_) (fun c21 => ?_)
        ·
          refine lv_iconst (v := (-1)) hx hb dX9_both_29 (by decide +kernel) ?_
          exact my_retI hx hb hr hlocks hK hS (wl_k_X9_both cI cJ cK m0 a_row a_tape a_number a_read a_readBits a_stands a_parted a_bitsWere a_stood a_chosen a_bestChosen a_often a_sorted a_risen a_risenWays 0 (nI m_told) (nI m_taped) (nI m_at) (nI m_to) (nI m_many) (nI m_readMany) m_fewest (nI m_size) mn mf mr) hP hD (⟨0, m_told, mf, mr, rfl, (by first | assumption | omega | trivial | decide +kernel)⟩) dX9_both_30
        ·
          exact absurd c21 (by decide +kernel)
  ·
    refine lv_if_eq (tgt := 29) hx hb dX9_both_11 (by decide) (fun c11 => ?_) (fun c11 => ?_)
    ·
      refine lv_iconst (v := (-1)) hx hb dX9_both_29 (by decide +kernel) ?_
      exact my_retI hx hb hr hlocks hK hS (wl_k_X9_both cI cJ cK m0 a_row a_tape a_number a_read a_readBits a_stands a_parted a_bitsWere a_stood a_chosen a_bestChosen a_often a_sorted a_risen a_risenWays 0 (nI m_told) (nI m_taped) (nI m_at) (nI m_to) (nI m_many) (nI m_readMany) m_fewest (nI m_size) mn mf mr) hP hD (⟨0, m_told, mf, mr, rfl, (by first | assumption | omega | trivial | decide +kernel)⟩) dX9_both_30
    ·
      exact absurd c11 (by decide +kernel)
abbrev wl_k_X9_same (cI cJ cK : ClassId) (m0 : Nat) (a_row : Nat) (a_tape : Nat) (a_number : Nat) (a_read : Nat) (a_readBits : Nat) (a_stands : Nat) (a_parted : Nat) (a_bitsWere : Nat) (a_stood : Nat) (a_chosen : Nat) (a_bestChosen : Nat) (a_often : Nat) (a_sorted : Nat) (a_risen : Nat) (a_risenWays : Nat) (v0_ : Int32) (v1_ : Int32) (v2_ : Int32) (v3_ : Int32) (v4_ : Int32) (v5_ : Int32) (v6_ : Int32) (v7_ : Int32) (v8_ : Int32) (v9_ : Nat → Int32) (v10_ : Nat → Int32) (v11_ : Nat → Int64) : va_W := [(m0, .inr (9, [.int v0_, .int v1_, .ref a_row, .ref a_tape, .int v2_, .int v3_, .int v4_, .int v5_, .ref a_number, .ref a_read, .int v6_, .ref a_readBits, .ref a_stands, .ref a_parted, .ref a_bitsWere, .ref a_stood, .ref a_chosen, .ref a_bestChosen, .int v7_, .ref a_often, .ref a_sorted, .int v8_, .ref a_risen, .ref a_risenWays])), (a_number, .inl (cI, 64, .inl v9_)), (a_often, .inl (cI, 512, .inl v10_)), (a_row, .inl (cJ, 64, .inr (.inl v11_)))]
set_option maxHeartbeats 4000000 in
set_option maxRecDepth 100000 in
theorem k_X9_same (l : Launch) (D : va_G) (cI cJ cK : ClassId) (m0 : Nat) (a_row : Nat) (a_tape : Nat) (a_number : Nat) (a_read : Nat) (a_readBits : Nat) (a_stands : Nat) (a_parted : Nat) (a_bitsWere : Nat) (a_stood : Nat) (a_chosen : Nat) (a_bestChosen : Nat) (a_often : Nat) (a_sorted : Nat) (a_risen : Nat) (a_risenWays : Nat) (m_thrown : Int32) (m_told : Nat) (m_taped : Nat) (m_at : Nat) (m_to : Nat) (m_many : Nat) (m_readMany : Nat) (m_fewest : Int32) (m_size : Nat) (mn : Nat → Int32) (mf : Nat → Int32) (mr : Nat → Int64) (l9 : Int32) (r9 : Int32) (s9 : Int32) (t9 : Int32) (hz_m_told : m_told ≤ 64) (hz_m_taped : m_taped ≤ 100) (hz_m_at : m_at ≤ 100) (hz_m_to : m_to ≤ 100) (hz_m_many : m_many ≤ 64) (hz_m_readMany : m_readMany ≤ 64) (hz_m_size : m_size ≤ 64) (hR_mn : RB 0 255 mn) : ctI l yX9_same wsX9_same ({ frames := 2, cells := 0, slots := 0, locals := 120 } : Room) D (tyIJ cI cJ cK) [.ref m0, .int l9, .int r9, .int s9, .int t9] (wl_k_X9_same cI cJ cK m0 a_row a_tape a_number a_read a_readBits a_stands a_parted a_bitsWere a_stood a_chosen a_bestChosen a_often a_sorted a_risen a_risenWays m_thrown (nI m_told) (nI m_taped) (nI m_at) (nI m_to) (nI m_many) (nI m_readMany) m_fewest (nI m_size) mn mf mr) (fun (r : Int32) (u : va_W) => ∃ (m_thrown' : Int32) (m_told' : Nat) (mf' : Nat → Int32) (mr' : Nat → Int64), u = (wl_k_X9_same cI cJ cK m0 a_row a_tape a_number a_read a_readBits a_stands a_parted a_bitsWere a_stood a_chosen a_bestChosen a_often a_sorted a_risen a_risenWays m_thrown' (nI m_told') (nI m_taped) (nI m_at) (nI m_to) (nI m_many) (nI m_readMany) m_fewest (nI m_size) mn mf' mr') ∧ m_told' ≤ 64) := by
  refine ctI.of (cc := cX9_same) (maxL := 10) (ret := (some .int)) (by decide) rfl (Nat.le_of_ble_eq_true rfl) ?_
  intro p e s m below meth c ls A hx hb hr hts hown hml hlocks hname hA hK hN hP hD hS hl
  have hl : lv_has ls 10 [(0, .ref m0), (1, .int l9), (2, .int r9), (3, .int s9), (4, .int t9)] := hl
  have hown : s.vm.findClass RX9 = some m.cls := hown
  have hi9 : ∀ w ∈ u_ws RX9 TX9 24, w ∈ wsX9_same := by decide +kernel
  have fl1 := hts (.fieldLink RX9 1 "PlaneColumnModel" "thrown" "I") (by decide +kernel)
  have fl11 := hts (.fieldLink RX9 11 "PlaneColumnModel" "told" "I") (by decide +kernel)
  refine lv_aload_n hx hb dX9_same_0 rfl (lv_at hl 0 rfl) ?_
  refine lv_iconst (v := 0) hx hb dX9_same_1 (by decide +kernel) ?_
  refine va_put (ci := 9) (v := .int 0) (ty := (.int)) (C := RX9) (T := TX9) (N := 24) hx hb hts hi9 tyX9 tyX9_ok nmX9 hown hK hP hD hS 0 rfl rfl 0 (by decide) fl1 (fun _ h9 => h9) rfl (by decide +kernel) rfl rfl (Nat.le_of_ble_eq_true rfl) dX9_same_2 (fun H locs hP hD hS => ?_)
  have hP : va_P D vwCl (wl_k_X9_same cI cJ cK m0 a_row a_tape a_number a_read a_readBits a_stands a_parted a_bitsWere a_stood a_chosen a_bestChosen a_often a_sorted a_risen a_risenWays 0 (nI m_told) (nI m_taped) (nI m_at) (nI m_to) (nI m_many) (nI m_readMany) m_fewest (nI m_size) mn mf mr) H := hP
  have hD : va_D A (wl_k_X9_same cI cJ cK m0 a_row a_tape a_number a_read a_readBits a_stands a_parted a_bitsWere a_stood a_chosen a_bestChosen a_often a_sorted a_risen a_risenWays 0 (nI m_told) (nI m_taped) (nI m_at) (nI m_to) (nI m_many) (nI m_readMany) m_fewest (nI m_size) mn mf mr) := hD
  refine lv_aload_n hx hb dX9_same_5 rfl (lv_at hl 0 rfl) ?_
  refine lv_iload_n hx hb dX9_same_6 rfl (lv_at hl 1 rfl) ?_
  refine lv_iload_n hx hb dX9_same_7 rfl (lv_at hl 2 rfl) ?_
  refine lv_iload_n hx hb dX9_same_8 rfl (lv_at hl 3 rfl) ?_
  refine lv_iload hx hb dX9_same_9 (lv_at hl 4 rfl) ?_
  refine my_goIS (wc := (wl_k_X9_counts_ cI cJ cK m0 a_row a_tape a_number a_read a_readBits a_stands a_parted a_bitsWere a_stood a_chosen a_bestChosen a_often a_sorted a_risen a_risenWays 0 (nI m_told) (nI m_taped) (nI m_at) (nI m_to) (nI m_many) (nI m_readMany) m_fewest (nI m_size) mn mf)) hP hD hS hA [0, 1, 2] rfl [some 0, some 1, some 2] (by decide +kernel) (my_cV (As := [.int l9, .int r9, .int s9, .int t9]) (rest := []) (ci := 9) (wc := (wl_k_X9_counts_ cI cJ cK m0 a_row a_tape a_number a_read a_readBits a_stands a_parted a_bitsWere a_stood a_chosen a_bestChosen a_often a_sorted a_risen a_risenWays 0 (nI m_told) (nI m_taped) (nI m_at) (nI m_to) (nI m_many) (nI m_readMany) m_fewest (nI m_size) mn mf)) ⟨hx, hb, hml, hown, hts⟩ (cwV 4 hts gX9_same_X9_counts_ rfl rfl rfl (by decide +kernel) ⟨Nat.le_of_ble_eq_true rfl, Nat.le_of_ble_eq_true rfl⟩) hN hK hP hD [0, 1, 2] rfl (by decide) rfl 0 rfl rfl rfl rfl hl.1 rfl (Nat.le_of_ble_eq_true rfl) dX9_same_11 ⟨Nat.le_of_ble_eq_true rfl, Nat.le_of_ble_eq_true rfl⟩  ((k_X9_counts_ l D cI cJ cK m0 a_row a_tape a_number a_read a_readBits a_stands a_parted a_bitsWere a_stood a_chosen a_bestChosen a_often a_sorted a_risen a_risenWays (0 : Int32) m_told m_taped m_at m_to m_many m_readMany m_fewest m_size mn mf l9 l9.toInt rfl r9 r9.toInt rfl s9 s9.toInt rfl t9 t9.toInt rfl (by first | assumption | omega | decide +kernel) (by first | assumption | omega | decide +kernel) (by first | assumption | omega | decide +kernel) (by first | assumption | omega | decide +kernel) (by first | assumption | omega | decide +kernel) (by first | assumption | omega | decide +kernel) (by first | assumption | omega | decide +kernel) hR_mn) _)) (fun r u H locs hp hPD hS => ?_)
  rcases hp with ⟨a_1, b_2, e_3, d_4, mf_5, rfl, rfl, rfl, rfl, rfl, rfl, hx1_6, hx2_7, hx3_8, hx4_9, hcn0, hcn1⟩ | ⟨rfl, rfl, ho_10⟩
  ·
    obtain ⟨hP, hD⟩ := hPD rfl
    have hP : va_P D vwCl (wl_k_X9_same cI cJ cK m0 a_row a_tape a_number a_read a_readBits a_stands a_parted a_bitsWere a_stood a_chosen a_bestChosen a_often a_sorted a_risen a_risenWays 0 (nI m_told) (nI m_taped) (nI m_at) (nI m_to) (nI m_many) (nI m_readMany) m_fewest (nI m_size) mn mf_5 mr) H := hP
    have hD : va_D A (wl_k_X9_same cI cJ cK m0 a_row a_tape a_number a_read a_readBits a_stands a_parted a_bitsWere a_stood a_chosen a_bestChosen a_often a_sorted a_risen a_risenWays 0 (nI m_told) (nI m_taped) (nI m_at) (nI m_to) (nI m_many) (nI m_readMany) m_fewest (nI m_size) mn mf_5 mr) := hD
    refine lv_if_ne (tgt := 19) hx hb dX9_same_14 (by decide) (fun c14 => ?_) (fun c14 => ?_)
    ·
      refine lv_iconst (v := (-1)) hx hb dX9_same_19 (by decide +kernel) ?_
      refine lv_istore (lv' := [(5, .int (-1)), (0, .ref m0), (1, .int (nI a_1)), (2, .int (nI b_2)), (3, .int (nI e_3)), (4, .int (nI d_4))]) hx hb dX9_same_20 hl (by decide) rfl (fun ls hl => ?_)
      refine lv_iconst (v := 0) hx hb dX9_same_22 (by decide +kernel) ?_
      refine lv_istore (lv' := [(6, .int 0), (5, .int (-1)), (0, .ref m0), (1, .int (nI a_1)), (2, .int (nI b_2)), (3, .int (nI e_3)), (4, .int (nI d_4))]) hx hb dX9_same_23 hl (by decide) rfl (fun ls hl => ?_)
      refine lv_iconst (v := 0) hx hb dX9_same_25 (by decide +kernel) ?_
      refine lv_istore (lv' := [(7, .int 0), (6, .int 0), (5, .int (-1)), (0, .ref m0), (1, .int (nI a_1)), (2, .int (nI b_2)), (3, .int (nI e_3)), (4, .int (nI d_4))]) hx hb dX9_same_26 hl (by decide) rfl (fun ls hl => ?_)
      refine lv_sipush (v := 255) hx hb dX9_same_28 (by decide +kernel) ?_
      refine lv_istore (lv' := [(8, .int 255), (7, .int 0), (6, .int 0), (5, .int (-1)), (0, .ref m0), (1, .int (nI a_1)), (2, .int (nI b_2)), (3, .int (nI e_3)), (4, .int (nI d_4))]) hx hb dX9_same_31 hl (by decide) rfl (fun ls hl => ?_)
      have loop33 : ∀ (n9 : Nat) (x : Int32) (y7_33 : Int32) (y6_33 : Int32) (y5_33 : Int32), (x.toInt + 1).toNat < n9 → (-1 ≤ x.toInt) → (x.toInt ≤ 255) → ∀ (H : Heap) (locs : List Loc) (ls : Array Slot), va_P D vwCl (wl_k_X9_same cI cJ cK m0 a_row a_tape a_number a_read a_readBits a_stands a_parted a_bitsWere a_stood a_chosen a_bestChosen a_often a_sorted a_risen a_risenWays 0 (nI m_told) (nI m_taped) (nI m_at) (nI m_to) (nI m_many) (nI m_readMany) m_fewest (nI m_size) mn mf_5 mr) H → va_D A (wl_k_X9_same cI cJ cK m0 a_row a_tape a_number a_read a_readBits a_stands a_parted a_bitsWere a_stood a_chosen a_bestChosen a_often a_sorted a_risen a_risenWays 0 (nI m_told) (nI m_taped) (nI m_at) (nI m_to) (nI m_many) (nI m_readMany) m_fewest (nI m_size) mn mf_5 mr) → va_S A s.heap H locs → lv_has ls 10 [(8, .int x), (7, .int y7_33), (6, .int y6_33), (5, .int y5_33), (0, .ref m0), (1, .int (nI a_1)), (2, .int (nI b_2)), (3, .int (nI e_3)), (4, .int (nI d_4))] → W p l e ({ frames := 2, cells := 0, slots := 0, locals := 120 } : Room) s m [.ref m0, .int (nI a_1), .int (nI b_2), .int (nI e_3), .int (nI d_4)].toArray below meth c H locs 0 0 (MQ below (va_Qi (fun (r : Int32) (u : va_W) => ∃ (m_thrown' : Int32) (m_told' : Nat) (mf' : Nat → Int32) (mr' : Nat → Int64), u = (wl_k_X9_same cI cJ cK m0 a_row a_tape a_number a_read a_readBits a_stands a_parted a_bitsWere a_stood a_chosen a_bestChosen a_often a_sorted a_risen a_risenWays m_thrown' (nI m_told') (nI m_taped) (nI m_at) (nI m_to) (nI m_many) (nI m_readMany) m_fewest (nI m_size) mn mf' mr') ∧ m_told' ≤ 64) (my_B D (tyIJ cI cJ cK) A) A) [.ref m0, .int (nI a_1), .int (nI b_2), .int (nI e_3), .int (nI d_4)].toArray s 0 0 A) (F0 m 33 ls []) := by
        intro n9
        induction n9 with
        | zero =>
          intro x y7_33 y6_33 y5_33 hn9
          exact absurd hn9 (Nat.not_lt_zero _)
        | succ n9 ih33 =>
          intro x y7_33 y6_33 y5_33 hn9 hx0 hx1 H locs ls hP hD hS hl
          refine lv_iload hx hb dX9_same_33 (lv_at hl 0 rfl) ?_
          refine lv_if_lt (tgt := 98) hx hb dX9_same_35 (by decide) (fun c35 => ?_) (fun c35 => ?_)
          ·
            have d35 : x.toInt < (0 : Int) := my_lt c35 rfl (by decide +kernel)
            refine lv_aload_n hx hb dX9_same_98 rfl (lv_at hl 4 rfl) ?_
            refine lv_iconst (v := 0) hx hb dX9_same_99 (by decide +kernel) ?_
            refine va_put (ci := 9) (v := .int 0) (ty := (.int)) (C := RX9) (T := TX9) (N := 24) hx hb hts hi9 tyX9 tyX9_ok nmX9 hown hK hP hD hS 0 rfl rfl 1 (by decide) fl11 (fun _ h9 => h9) rfl (by decide +kernel) rfl rfl (Nat.le_of_ble_eq_true rfl) dX9_same_100 (fun H locs hP hD hS => ?_)
            have hP : va_P D vwCl (wl_k_X9_same cI cJ cK m0 a_row a_tape a_number a_read a_readBits a_stands a_parted a_bitsWere a_stood a_chosen a_bestChosen a_often a_sorted a_risen a_risenWays 0 0 (nI m_taped) (nI m_at) (nI m_to) (nI m_many) (nI m_readMany) m_fewest (nI m_size) mn mf_5 mr) H := hP
            have hD : va_D A (wl_k_X9_same cI cJ cK m0 a_row a_tape a_number a_read a_readBits a_stands a_parted a_bitsWere a_stood a_chosen a_bestChosen a_often a_sorted a_risen a_risenWays 0 0 (nI m_taped) (nI m_at) (nI m_to) (nI m_many) (nI m_readMany) m_fewest (nI m_size) mn mf_5 mr) := hD
            refine lv_aload_n hx hb dX9_same_103 rfl (lv_at hl 4 rfl) ?_
            refine lv_iload hx hb dX9_same_104 (lv_at hl 3 rfl) ?_
            refine lv_i2l (v := y5_33.toInt64) hx hb dX9_same_106 rfl ?_
            refine my_goVS (wc := (wl_k_X9_enters cI cJ cK m0 a_row a_tape a_number a_read a_readBits a_stands a_parted a_bitsWere a_stood a_chosen a_bestChosen a_often a_sorted a_risen a_risenWays 0 0 (nI m_taped) (nI m_at) (nI m_to) (nI m_many) (nI m_readMany) m_fewest (nI m_size) mr)) hP hD hS hA [0, 3] rfl [some 0, none, none, some 1] (by decide +kernel) (my_cV (As := [.long y5_33.toInt64]) (rest := []) (ci := 9) (wc := (wl_k_X9_enters cI cJ cK m0 a_row a_tape a_number a_read a_readBits a_stands a_parted a_bitsWere a_stood a_chosen a_bestChosen a_often a_sorted a_risen a_risenWays 0 0 (nI m_taped) (nI m_at) (nI m_to) (nI m_many) (nI m_readMany) m_fewest (nI m_size) mr)) ⟨hx, hb, hml, hown, hts⟩ (cwV 1 hts gX9_same_X9_enters rfl rfl rfl (by decide +kernel) ⟨Nat.le_of_ble_eq_true rfl, Nat.le_of_ble_eq_true rfl⟩) hN hK hP hD [0, 3] rfl (by decide) rfl 0 rfl rfl rfl rfl hl.1 rfl (Nat.le_of_ble_eq_true rfl) dX9_same_107 ⟨Nat.le_of_ble_eq_true rfl, Nat.le_of_ble_eq_true rfl⟩  ((k_X9_enters l D cI cJ cK m0 a_row a_tape a_number a_read a_readBits a_stands a_parted a_bitsWere a_stood a_chosen a_bestChosen a_often a_sorted a_risen a_risenWays (0 : Int32) 0 m_taped m_at m_to m_many m_readMany m_fewest m_size mr y5_33.toInt64 (by first | assumption | omega | decide +kernel) (by first | assumption | omega | decide +kernel) (by first | assumption | omega | decide +kernel) (by first | assumption | omega | decide +kernel) (by first | assumption | omega | decide +kernel) (by first | assumption | omega | decide +kernel) (by first | assumption | omega | decide +kernel) (by first | assumption | omega | decide +kernel)) _)) (fun u H locs hp hPD hS => ?_)
            obtain ⟨m_told_11, mr_12, rfl, hhz_m_told_13, ht_14⟩ := hp
            obtain ⟨hP, hD⟩ := hPD rfl
            have hP : va_P D vwCl (wl_k_X9_same cI cJ cK m0 a_row a_tape a_number a_read a_readBits a_stands a_parted a_bitsWere a_stood a_chosen a_bestChosen a_often a_sorted a_risen a_risenWays 0 (nI m_told_11) (nI m_taped) (nI m_at) (nI m_to) (nI m_many) (nI m_readMany) m_fewest (nI m_size) mn mf_5 mr_12) H := hP
            have hD : va_D A (wl_k_X9_same cI cJ cK m0 a_row a_tape a_number a_read a_readBits a_stands a_parted a_bitsWere a_stood a_chosen a_bestChosen a_often a_sorted a_risen a_risenWays 0 (nI m_told_11) (nI m_taped) (nI m_at) (nI m_to) (nI m_many) (nI m_readMany) m_fewest (nI m_size) mn mf_5 mr_12) := hD
            refine lv_aload_n hx hb dX9_same_110 rfl (lv_at hl 4 rfl) ?_
            refine lv_iload hx hb dX9_same_111 (lv_at hl 2 rfl) ?_
            refine lv_i2l (v := y6_33.toInt64) hx hb dX9_same_113 rfl ?_
            refine my_goVS (wc := (wl_k_X9_enters cI cJ cK m0 a_row a_tape a_number a_read a_readBits a_stands a_parted a_bitsWere a_stood a_chosen a_bestChosen a_often a_sorted a_risen a_risenWays 0 (nI m_told_11) (nI m_taped) (nI m_at) (nI m_to) (nI m_many) (nI m_readMany) m_fewest (nI m_size) mr_12)) hP hD hS hA [0, 3] rfl [some 0, none, none, some 1] (by decide +kernel) (my_cV (As := [.long y6_33.toInt64]) (rest := []) (ci := 9) (wc := (wl_k_X9_enters cI cJ cK m0 a_row a_tape a_number a_read a_readBits a_stands a_parted a_bitsWere a_stood a_chosen a_bestChosen a_often a_sorted a_risen a_risenWays 0 (nI m_told_11) (nI m_taped) (nI m_at) (nI m_to) (nI m_many) (nI m_readMany) m_fewest (nI m_size) mr_12)) ⟨hx, hb, hml, hown, hts⟩ (cwV 1 hts gX9_same_X9_enters rfl rfl rfl (by decide +kernel) ⟨Nat.le_of_ble_eq_true rfl, Nat.le_of_ble_eq_true rfl⟩) hN hK hP hD [0, 3] rfl (by decide) rfl 0 rfl rfl rfl rfl hl.1 rfl (Nat.le_of_ble_eq_true rfl) dX9_same_114 ⟨Nat.le_of_ble_eq_true rfl, Nat.le_of_ble_eq_true rfl⟩  ((k_X9_enters l D cI cJ cK m0 a_row a_tape a_number a_read a_readBits a_stands a_parted a_bitsWere a_stood a_chosen a_bestChosen a_often a_sorted a_risen a_risenWays (0 : Int32) m_told_11 m_taped m_at m_to m_many m_readMany m_fewest m_size mr_12 y6_33.toInt64 (by first | assumption | omega | decide +kernel) (by first | assumption | omega | decide +kernel) (by first | assumption | omega | decide +kernel) (by first | assumption | omega | decide +kernel) (by first | assumption | omega | decide +kernel) (by first | assumption | omega | decide +kernel) (by first | assumption | omega | decide +kernel) (by first | assumption | omega | decide +kernel)) _)) (fun u H locs hp hPD hS => ?_)
            obtain ⟨m_told_15, mr_16, rfl, hhz_m_told_17, ht_18⟩ := hp
            obtain ⟨hP, hD⟩ := hPD rfl
            have hP : va_P D vwCl (wl_k_X9_same cI cJ cK m0 a_row a_tape a_number a_read a_readBits a_stands a_parted a_bitsWere a_stood a_chosen a_bestChosen a_often a_sorted a_risen a_risenWays 0 (nI m_told_15) (nI m_taped) (nI m_at) (nI m_to) (nI m_many) (nI m_readMany) m_fewest (nI m_size) mn mf_5 mr_16) H := hP
            have hD : va_D A (wl_k_X9_same cI cJ cK m0 a_row a_tape a_number a_read a_readBits a_stands a_parted a_bitsWere a_stood a_chosen a_bestChosen a_often a_sorted a_risen a_risenWays 0 (nI m_told_15) (nI m_taped) (nI m_at) (nI m_to) (nI m_many) (nI m_readMany) m_fewest (nI m_size) mn mf_5 mr_16) := hD
            refine lv_aload_n hx hb dX9_same_117 rfl (lv_at hl 4 rfl) ?_
            refine lv_iload hx hb dX9_same_118 (lv_at hl 1 rfl) ?_
            refine lv_i2l (v := y7_33.toInt64) hx hb dX9_same_120 rfl ?_
            refine my_goVS (wc := (wl_k_X9_enters cI cJ cK m0 a_row a_tape a_number a_read a_readBits a_stands a_parted a_bitsWere a_stood a_chosen a_bestChosen a_often a_sorted a_risen a_risenWays 0 (nI m_told_15) (nI m_taped) (nI m_at) (nI m_to) (nI m_many) (nI m_readMany) m_fewest (nI m_size) mr_16)) hP hD hS hA [0, 3] rfl [some 0, none, none, some 1] (by decide +kernel) (my_cV (As := [.long y7_33.toInt64]) (rest := []) (ci := 9) (wc := (wl_k_X9_enters cI cJ cK m0 a_row a_tape a_number a_read a_readBits a_stands a_parted a_bitsWere a_stood a_chosen a_bestChosen a_often a_sorted a_risen a_risenWays 0 (nI m_told_15) (nI m_taped) (nI m_at) (nI m_to) (nI m_many) (nI m_readMany) m_fewest (nI m_size) mr_16)) ⟨hx, hb, hml, hown, hts⟩ (cwV 1 hts gX9_same_X9_enters rfl rfl rfl (by decide +kernel) ⟨Nat.le_of_ble_eq_true rfl, Nat.le_of_ble_eq_true rfl⟩) hN hK hP hD [0, 3] rfl (by decide) rfl 0 rfl rfl rfl rfl hl.1 rfl (Nat.le_of_ble_eq_true rfl) dX9_same_121 ⟨Nat.le_of_ble_eq_true rfl, Nat.le_of_ble_eq_true rfl⟩  ((k_X9_enters l D cI cJ cK m0 a_row a_tape a_number a_read a_readBits a_stands a_parted a_bitsWere a_stood a_chosen a_bestChosen a_often a_sorted a_risen a_risenWays (0 : Int32) m_told_15 m_taped m_at m_to m_many m_readMany m_fewest m_size mr_16 y7_33.toInt64 (by first | assumption | omega | decide +kernel) (by first | assumption | omega | decide +kernel) (by first | assumption | omega | decide +kernel) (by first | assumption | omega | decide +kernel) (by first | assumption | omega | decide +kernel) (by first | assumption | omega | decide +kernel) (by first | assumption | omega | decide +kernel) (by first | assumption | omega | decide +kernel)) _)) (fun u H locs hp hPD hS => ?_)
            obtain ⟨m_told_19, mr_20, rfl, hhz_m_told_21, ht_22⟩ := hp
            obtain ⟨hP, hD⟩ := hPD rfl
            have hP : va_P D vwCl (wl_k_X9_same cI cJ cK m0 a_row a_tape a_number a_read a_readBits a_stands a_parted a_bitsWere a_stood a_chosen a_bestChosen a_often a_sorted a_risen a_risenWays 0 (nI m_told_19) (nI m_taped) (nI m_at) (nI m_to) (nI m_many) (nI m_readMany) m_fewest (nI m_size) mn mf_5 mr_20) H := hP
            have hD : va_D A (wl_k_X9_same cI cJ cK m0 a_row a_tape a_number a_read a_readBits a_stands a_parted a_bitsWere a_stood a_chosen a_bestChosen a_often a_sorted a_risen a_risenWays 0 (nI m_told_19) (nI m_taped) (nI m_at) (nI m_to) (nI m_many) (nI m_readMany) m_fewest (nI m_size) mn mf_5 mr_20) := hD
            refine lv_iload hx hb dX9_same_124 (lv_at hl 3 rfl) ?_
            refine lv_if_ge (tgt := 133) hx hb dX9_same_126 (by decide) (fun c126 => ?_) (fun c126 => ?_)
            ·
              have d126 : y5_33.toInt ≥ (0 : Int) := my_ge c126 rfl (by decide +kernel)
              refine lv_iconst (v := 0) hx hb dX9_same_133 (by decide +kernel) ?_
              refine my_gpI (my_pS (As := [.int 0]) (rest := []) ⟨hx, hb, hml, hown, hts⟩ (va_cwS 1 hts gX9_same_X9_flag rfl rfl rfl (by decide +kernel) ⟨Nat.le_of_ble_eq_true rfl, Nat.le_of_ble_eq_true rfl⟩) hN hK hP [] rfl rfl hl.1 rfl (Nat.le_of_ble_eq_true rfl) dX9_same_134 ⟨Nat.le_of_ble_eq_true rfl, Nat.le_of_ble_eq_true rfl⟩  (k0_X9_flag l D cI cJ cK )) (fun r hp => ?_)
              obtain rfl := hp
              exact my_retI hx hb hr hlocks hK hS (wl_k_X9_same cI cJ cK m0 a_row a_tape a_number a_read a_readBits a_stands a_parted a_bitsWere a_stood a_chosen a_bestChosen a_often a_sorted a_risen a_risenWays 0 (nI m_told_19) (nI m_taped) (nI m_at) (nI m_to) (nI m_many) (nI m_readMany) m_fewest (nI m_size) mn mf_5 mr_20) hP hD (⟨0, m_told_19, mf_5, mr_20, rfl, (by first | assumption | omega | trivial | decide +kernel)⟩) dX9_same_137
            ·
              have d126 : y5_33.toInt < (0 : Int) := my_nge c126 rfl (by decide +kernel)
              refine lv_iconst (v := 1) hx hb dX9_same_129 (by decide +kernel) ?_
              refine lv_goto (tgt := 134) hx hb dX9_same_130 (by decide) ?_
              refine my_gpI (my_pS (As := [.int 1]) (rest := []) ⟨hx, hb, hml, hown, hts⟩ (va_cwS 1 hts gX9_same_X9_flag rfl rfl rfl (by decide +kernel) ⟨Nat.le_of_ble_eq_true rfl, Nat.le_of_ble_eq_true rfl⟩) hN hK hP [] rfl rfl hl.1 rfl (Nat.le_of_ble_eq_true rfl) dX9_same_134 ⟨Nat.le_of_ble_eq_true rfl, Nat.le_of_ble_eq_true rfl⟩  (k1_X9_flag l D cI cJ cK )) (fun r hp => ?_)
              obtain rfl := hp
              exact my_retI hx hb hr hlocks hK hS (wl_k_X9_same cI cJ cK m0 a_row a_tape a_number a_read a_readBits a_stands a_parted a_bitsWere a_stood a_chosen a_bestChosen a_often a_sorted a_risen a_risenWays 0 (nI m_told_19) (nI m_taped) (nI m_at) (nI m_to) (nI m_many) (nI m_readMany) m_fewest (nI m_size) mn mf_5 mr_20) hP hD (⟨0, m_told_19, mf_5, mr_20, rfl, (by first | assumption | omega | trivial | decide +kernel)⟩) dX9_same_137
          ·
            have d35 : x.toInt ≥ (0 : Int) := my_nlt c35 rfl (by decide +kernel)
            refine lv_aload_n hx hb dX9_same_38 rfl (lv_at hl 4 rfl) ?_
            refine lv_iconst (v := 0) hx hb dX9_same_39 (by decide +kernel) ?_
            refine lv_iload hx hb dX9_same_40 (lv_at hl 0 rfl) ?_
            obtain ⟨w_23, ew_23, hw_23⟩ : ∃ w : Nat, x = nI w ∧ (w : Int) = (x : Int32).toInt := my_natE (by omega)
            refine my_eqi (y := nI w_23) ew_23 ?_
            refine my_gpI (my_pV (As := [.int 0, .int (nI w_23)]) (rest := []) (ci := 9) ⟨hx, hb, hml, hown, hts⟩ (cwV 2 hts gX9_same_X9_times rfl rfl rfl (by decide +kernel) ⟨Nat.le_of_ble_eq_true rfl, Nat.le_of_ble_eq_true rfl⟩) hN hK hP [0, 2] rfl 0 rfl rfl rfl rfl hl.1 rfl (Nat.le_of_ble_eq_true rfl) dX9_same_42 ⟨Nat.le_of_ble_eq_true rfl, Nat.le_of_ble_eq_true rfl⟩  (k0_X9_times l D cI cJ cK m0 a_row a_tape a_number a_read a_readBits a_stands a_parted a_bitsWere a_stood a_chosen a_bestChosen a_often a_sorted a_risen a_risenWays (0 : Int32) m_told m_taped m_at m_to m_many m_readMany m_fewest m_size mf_5 w_23 (by first | assumption | omega | decide +kernel) (by first | assumption | omega | decide +kernel) (by first | assumption | omega | decide +kernel) (by first | assumption | omega | decide +kernel) (by first | assumption | omega | decide +kernel) (by first | assumption | omega | decide +kernel) (by first | assumption | omega | decide +kernel) (by first | assumption | omega | decide +kernel))) (fun r hp => ?_)
            obtain rfl := hp
            refine lv_aload_n hx hb dX9_same_45 rfl (lv_at hl 4 rfl) ?_
            refine lv_iconst (v := 1) hx hb dX9_same_46 (by decide +kernel) ?_
            refine lv_iload hx hb dX9_same_47 (lv_at hl 0 rfl) ?_
            obtain ⟨w_24, ew_24, hw_24⟩ : ∃ w : Nat, x = nI w ∧ (w : Int) = (x : Int32).toInt := my_natE (by omega)
            refine my_eqi (y := nI w_24) ew_24 ?_
            refine my_gpI (my_pV (As := [.int 1, .int (nI w_24)]) (rest := [.int (mf_5 w_23)]) (ci := 9) ⟨hx, hb, hml, hown, hts⟩ (cwV 2 hts gX9_same_X9_times rfl rfl rfl (by decide +kernel) ⟨Nat.le_of_ble_eq_true rfl, Nat.le_of_ble_eq_true rfl⟩) hN hK hP [0, 2] rfl 0 rfl rfl rfl rfl hl.1 rfl (Nat.le_of_ble_eq_true rfl) dX9_same_49 ⟨Nat.le_of_ble_eq_true rfl, Nat.le_of_ble_eq_true rfl⟩  (k1_X9_times l D cI cJ cK m0 a_row a_tape a_number a_read a_readBits a_stands a_parted a_bitsWere a_stood a_chosen a_bestChosen a_often a_sorted a_risen a_risenWays (0 : Int32) m_told m_taped m_at m_to m_many m_readMany m_fewest m_size mf_5 w_24 (by first | assumption | omega | decide +kernel) (by first | assumption | omega | decide +kernel) (by first | assumption | omega | decide +kernel) (by first | assumption | omega | decide +kernel) (by first | assumption | omega | decide +kernel) (by first | assumption | omega | decide +kernel) (by first | assumption | omega | decide +kernel) (by first | assumption | omega | decide +kernel))) (fun r hp => ?_)
            obtain rfl := hp
            refine lv_isub hx hb dX9_same_52 ?_
            refine lv_topi (fun z_25 ez_25 => ?_)
            try have tz_25 : z_25.toInt = (mf_5 w_23).toInt - (mf_5 (w_24 + 256)).toInt := by rw [ez_25]; exact my_subI rfl rfl (by omega) (by omega)
            refine lv_istore (lv' := [(9, .int z_25), (8, .int x), (7, .int y7_33), (6, .int y6_33), (5, .int y5_33), (0, .ref m0), (1, .int (nI a_1)), (2, .int (nI b_2)), (3, .int (nI e_3)), (4, .int (nI d_4))]) hx hb dX9_same_53 hl (by decide) rfl (fun ls hl => ?_)
            refine lv_iload hx hb dX9_same_55 (lv_at hl 0 rfl) ?_
            refine lv_if_eq (tgt := 65) hx hb dX9_same_57 (by decide) (fun c57 => ?_) (fun c57 => ?_)
            ·
              have d57 : z_25.toInt = (0 : Int) := my_eq c57 rfl (by decide +kernel)
              refine lv_iload hx hb dX9_same_65 (lv_at hl 4 rfl) ?_
              refine lv_istore (lv' := [(5, .int y5_33), (9, .int z_25), (8, .int x), (7, .int y7_33), (6, .int y6_33), (0, .ref m0), (1, .int (nI a_1)), (2, .int (nI b_2)), (3, .int (nI e_3)), (4, .int (nI d_4))]) hx hb dX9_same_67 hl (by decide) rfl (fun ls hl => ?_)
              refine lv_iload hx hb dX9_same_69 (lv_at hl 4 rfl) ?_
              refine lv_iconst (v := 0) hx hb dX9_same_71 (by decide +kernel) ?_
              refine lv_iload hx hb dX9_same_72 (lv_at hl 1 rfl) ?_
              refine va_mmax hx hb (hml.trans hl.1.symm) hown (hts (.methodLink RX9 181 Lib.Math.max.name) (by decide +kernel)) (hts (.static Lib.Math.max.name) (by decide +kernel)) (hts (.initialized "java/lang/Math") (by decide +kernel)) (hts (.code Lib.Math.max.name Lib.Math.max.code 2 (some .int)) (by decide +kernel)) (Nat.le_of_ble_eq_true rfl) (Nat.le_of_ble_eq_true rfl) (Nat.le_of_ble_eq_true rfl) (Nat.le_of_ble_eq_true rfl) dX9_same_74 ?_
              refine lv_topi (fun z_26 ez_26 => ?_)
              have tz_26 := my_maxI (a := (0 : Int)) (b := z_25.toInt) ez_26 (by decide +kernel) rfl
              refine lv_iadd hx hb dX9_same_77 ?_
              refine lv_topi (fun z_27 ez_27 => ?_)
              try have tz_27 : z_27.toInt = y6_33.toInt + z_26.toInt := by rw [ez_27]; exact my_addI rfl rfl (by omega) (by omega)
              refine lv_istore (lv' := [(6, .int z_27), (5, .int y5_33), (9, .int z_25), (8, .int x), (7, .int y7_33), (0, .ref m0), (1, .int (nI a_1)), (2, .int (nI b_2)), (3, .int (nI e_3)), (4, .int (nI d_4))]) hx hb dX9_same_78 hl (by decide) rfl (fun ls hl => ?_)
              refine lv_iload hx hb dX9_same_80 (lv_at hl 4 rfl) ?_
              refine lv_iconst (v := 0) hx hb dX9_same_82 (by decide +kernel) ?_
              refine lv_iload hx hb dX9_same_83 (lv_at hl 2 rfl) ?_
              refine lv_ineg hx hb dX9_same_85 ?_
              refine lv_topi (fun z_28 ez_28 => ?_)
              refine va_mmax hx hb (hml.trans hl.1.symm) hown (hts (.methodLink RX9 181 Lib.Math.max.name) (by decide +kernel)) (hts (.static Lib.Math.max.name) (by decide +kernel)) (hts (.initialized "java/lang/Math") (by decide +kernel)) (hts (.code Lib.Math.max.name Lib.Math.max.code 2 (some .int)) (by decide +kernel)) (Nat.le_of_ble_eq_true rfl) (Nat.le_of_ble_eq_true rfl) (Nat.le_of_ble_eq_true rfl) (Nat.le_of_ble_eq_true rfl) dX9_same_86 ?_
              refine lv_topi (fun z_29 ez_29 => ?_)
              have tz_29 := my_maxI (a := (0 : Int)) (b := z_28.toInt) ez_29 (by decide +kernel) rfl
              refine lv_iadd hx hb dX9_same_89 ?_
              refine lv_topi (fun z_30 ez_30 => ?_)
              try have tz_30 : z_30.toInt = y7_33.toInt + z_29.toInt := by rw [ez_30]; exact my_addI rfl rfl (by omega) (by omega)
              refine lv_istore (lv' := [(7, .int z_30), (6, .int z_27), (5, .int y5_33), (9, .int z_25), (8, .int x), (0, .ref m0), (1, .int (nI a_1)), (2, .int (nI b_2)), (3, .int (nI e_3)), (4, .int (nI d_4))]) hx hb dX9_same_90 hl (by decide) rfl (fun ls hl => ?_)
              obtain ⟨z_31, ez_31⟩ : ∃ y : Int32, y = x + (-1) := ⟨_, rfl⟩
              try have tz_31 : z_31.toInt = x.toInt + (-1) := by rw [ez_31]; exact my_addI rfl (by decide +kernel) (by omega) (by omega)
              refine lv_iinc (v := z_31) (lv' := [(8, .int z_31), (7, .int z_30), (6, .int z_27), (5, .int y5_33), (9, .int z_25), (0, .ref m0), (1, .int (nI a_1)), (2, .int (nI b_2)), (3, .int (nI e_3)), (4, .int (nI d_4))]) hx hb dX9_same_92 hl (k := 4) rfl (by rw [ez_31]; rfl) (by decide) rfl (fun ls hl => ?_)
              refine lv_goto (tgt := 33) hx hb dX9_same_95 (by decide) ?_
              exact ih33  z_31 z_30 z_27 y5_33 (by omega) (by first | assumption | omega | decide +kernel) (by first | assumption | omega | decide +kernel) _ _ ls hP hD hS (lv_sub hl [0, 1, 2, 3, 5, 6, 7, 8, 9] rfl)
            ·
              have d57 : z_25.toInt ≠ (0 : Int) := my_ne c57 rfl (by decide +kernel)
              refine lv_iload hx hb dX9_same_60 (lv_at hl 1 rfl) ?_
              refine lv_goto (tgt := 67) hx hb dX9_same_62 (by decide) ?_
              refine lv_istore (lv' := [(5, .int x), (9, .int z_25), (8, .int x), (7, .int y7_33), (6, .int y6_33), (0, .ref m0), (1, .int (nI a_1)), (2, .int (nI b_2)), (3, .int (nI e_3)), (4, .int (nI d_4))]) hx hb dX9_same_67 hl (by decide) rfl (fun ls hl => ?_)
              refine lv_iload hx hb dX9_same_69 (lv_at hl 4 rfl) ?_
              refine lv_iconst (v := 0) hx hb dX9_same_71 (by decide +kernel) ?_
              refine lv_iload hx hb dX9_same_72 (lv_at hl 1 rfl) ?_
              refine va_mmax hx hb (hml.trans hl.1.symm) hown (hts (.methodLink RX9 181 Lib.Math.max.name) (by decide +kernel)) (hts (.static Lib.Math.max.name) (by decide +kernel)) (hts (.initialized "java/lang/Math") (by decide +kernel)) (hts (.code Lib.Math.max.name Lib.Math.max.code 2 (some .int)) (by decide +kernel)) (Nat.le_of_ble_eq_true rfl) (Nat.le_of_ble_eq_true rfl) (Nat.le_of_ble_eq_true rfl) (Nat.le_of_ble_eq_true rfl) dX9_same_74 ?_
              refine lv_topi (fun z_32 ez_32 => ?_)
              have tz_32 := my_maxI (a := (0 : Int)) (b := z_25.toInt) ez_32 (by decide +kernel) rfl
              refine lv_iadd hx hb dX9_same_77 ?_
              refine lv_topi (fun z_33 ez_33 => ?_)
              try have tz_33 : z_33.toInt = y6_33.toInt + z_32.toInt := by rw [ez_33]; exact my_addI rfl rfl (by omega) (by omega)
              refine lv_istore (lv' := [(6, .int z_33), (5, .int x), (9, .int z_25), (8, .int x), (7, .int y7_33), (0, .ref m0), (1, .int (nI a_1)), (2, .int (nI b_2)), (3, .int (nI e_3)), (4, .int (nI d_4))]) hx hb dX9_same_78 hl (by decide) rfl (fun ls hl => ?_)
              refine lv_iload hx hb dX9_same_80 (lv_at hl 4 rfl) ?_
              refine lv_iconst (v := 0) hx hb dX9_same_82 (by decide +kernel) ?_
              refine lv_iload hx hb dX9_same_83 (lv_at hl 2 rfl) ?_
              refine lv_ineg hx hb dX9_same_85 ?_
              refine lv_topi (fun z_34 ez_34 => ?_)
              refine va_mmax hx hb (hml.trans hl.1.symm) hown (hts (.methodLink RX9 181 Lib.Math.max.name) (by decide +kernel)) (hts (.static Lib.Math.max.name) (by decide +kernel)) (hts (.initialized "java/lang/Math") (by decide +kernel)) (hts (.code Lib.Math.max.name Lib.Math.max.code 2 (some .int)) (by decide +kernel)) (Nat.le_of_ble_eq_true rfl) (Nat.le_of_ble_eq_true rfl) (Nat.le_of_ble_eq_true rfl) (Nat.le_of_ble_eq_true rfl) dX9_same_86 ?_
              refine lv_topi (fun z_35 ez_35 => ?_)
              have tz_35 := my_maxI (a := (0 : Int)) (b := z_34.toInt) ez_35 (by decide +kernel) rfl
              refine lv_iadd hx hb dX9_same_89 ?_
              refine lv_topi (fun z_36 ez_36 => ?_)
              try have tz_36 : z_36.toInt = y7_33.toInt + z_35.toInt := by rw [ez_36]; exact my_addI rfl rfl (by omega) (by omega)
              refine lv_istore (lv' := [(7, .int z_36), (6, .int z_33), (5, .int x), (9, .int z_25), (8, .int x), (0, .ref m0), (1, .int (nI a_1)), (2, .int (nI b_2)), (3, .int (nI e_3)), (4, .int (nI d_4))]) hx hb dX9_same_90 hl (by decide) rfl (fun ls hl => ?_)
              obtain ⟨z_37, ez_37⟩ : ∃ y : Int32, y = x + (-1) := ⟨_, rfl⟩
              try have tz_37 : z_37.toInt = x.toInt + (-1) := by rw [ez_37]; exact my_addI rfl (by decide +kernel) (by omega) (by omega)
              refine lv_iinc (v := z_37) (lv' := [(8, .int z_37), (7, .int z_36), (6, .int z_33), (5, .int x), (9, .int z_25), (0, .ref m0), (1, .int (nI a_1)), (2, .int (nI b_2)), (3, .int (nI e_3)), (4, .int (nI d_4))]) hx hb dX9_same_92 hl (k := 4) rfl (by rw [ez_37]; rfl) (by decide) rfl (fun ls hl => ?_)
              refine lv_goto (tgt := 33) hx hb dX9_same_95 (by decide) ?_
              exact ih33  z_37 z_36 z_33 x (by omega) (by first | assumption | omega | decide +kernel) (by first | assumption | omega | decide +kernel) _ _ ls hP hD hS (lv_sub hl [0, 1, 2, 3, 5, 6, 7, 8, 9] rfl)
      have ec_38 : (255 : Int32).toInt = 255 := by decide +kernel
      have ec_39 : (0 : Int32).toInt = 0 := by decide +kernel
      have ec_40 : (0 : Int32).toInt = 0 := by decide +kernel
      have ec_41 : (-1 : Int32).toInt = -1 := by decide +kernel
      exact loop33 ((((255 : Int32).toInt + 1).toNat) + 1) (255 : Int32) (0 : Int32) (0 : Int32) (-1 : Int32) (Nat.lt_succ_self _) (by first | assumption | omega | decide +kernel) (by first | assumption | omega | decide +kernel) _ _ ls hP hD hS (lv_sub hl [0, 1, 2, 3, 4, 5, 6, 7, 8] rfl)
    ·
      exact absurd c14 (by decide +kernel)
  ·
    obtain ⟨hP, hD⟩ := hPD rfl
    have hP : va_P D vwCl (wl_k_X9_same cI cJ cK m0 a_row a_tape a_number a_read a_readBits a_stands a_parted a_bitsWere a_stood a_chosen a_bestChosen a_often a_sorted a_risen a_risenWays 0 (nI m_told) (nI m_taped) (nI m_at) (nI m_to) (nI m_many) (nI m_readMany) m_fewest (nI m_size) mn mf mr) H := hP
    have hD : va_D A (wl_k_X9_same cI cJ cK m0 a_row a_tape a_number a_read a_readBits a_stands a_parted a_bitsWere a_stood a_chosen a_bestChosen a_often a_sorted a_risen a_risenWays 0 (nI m_told) (nI m_taped) (nI m_at) (nI m_to) (nI m_many) (nI m_readMany) m_fewest (nI m_size) mn mf mr) := hD
    refine lv_if_ne (tgt := 19) hx hb dX9_same_14 (by decide) (fun c14 => ?_) (fun c14 => ?_)
    ·
      exact absurd c14 (by decide +kernel)
    ·
      refine lv_iconst (v := (-1)) hx hb dX9_same_17 (by decide +kernel) ?_
      exact my_retI hx hb hr hlocks hK hS (wl_k_X9_same cI cJ cK m0 a_row a_tape a_number a_read a_readBits a_stands a_parted a_bitsWere a_stood a_chosen a_bestChosen a_often a_sorted a_risen a_risenWays 0 (nI m_told) (nI m_taped) (nI m_at) (nI m_to) (nI m_many) (nI m_readMany) m_fewest (nI m_size) mn mf mr) hP hD (⟨0, m_told, mf, mr, rfl, (by first | assumption | omega | trivial | decide +kernel)⟩) dX9_same_18
abbrev wl_k_X9_unlike (cI cJ cK : ClassId) (m0 : Nat) (a_row : Nat) (a_tape : Nat) (a_number : Nat) (a_read : Nat) (a_readBits : Nat) (a_stands : Nat) (a_parted : Nat) (a_bitsWere : Nat) (a_stood : Nat) (a_chosen : Nat) (a_bestChosen : Nat) (a_often : Nat) (a_sorted : Nat) (a_risen : Nat) (a_risenWays : Nat) (v0_ : Int32) (v1_ : Int32) (v2_ : Int32) (v3_ : Int32) (v4_ : Int32) (v5_ : Int32) (v6_ : Int32) (v7_ : Int32) (v8_ : Int32) (v9_ : Nat → Int32) (v10_ : Nat → Int32) : va_W := [(m0, .inr (9, [.int v0_, .int v1_, .ref a_row, .ref a_tape, .int v2_, .int v3_, .int v4_, .int v5_, .ref a_number, .ref a_read, .int v6_, .ref a_readBits, .ref a_stands, .ref a_parted, .ref a_bitsWere, .ref a_stood, .ref a_chosen, .ref a_bestChosen, .int v7_, .ref a_often, .ref a_sorted, .int v8_, .ref a_risen, .ref a_risenWays])), (a_number, .inl (cI, 64, .inl v9_)), (a_often, .inl (cI, 512, .inl v10_))]
set_option maxHeartbeats 4000000 in
set_option maxRecDepth 100000 in
theorem k_X9_unlike (l : Launch) (D : va_G) (cI cJ cK : ClassId) (m0 : Nat) (a_row : Nat) (a_tape : Nat) (a_number : Nat) (a_read : Nat) (a_readBits : Nat) (a_stands : Nat) (a_parted : Nat) (a_bitsWere : Nat) (a_stood : Nat) (a_chosen : Nat) (a_bestChosen : Nat) (a_often : Nat) (a_sorted : Nat) (a_risen : Nat) (a_risenWays : Nat) (m_thrown : Int32) (m_told : Nat) (m_taped : Nat) (m_at : Nat) (m_to : Nat) (m_many : Nat) (m_readMany : Nat) (m_fewest : Int32) (m_size : Nat) (mn : Nat → Int32) (mf : Nat → Int32) (hz_m_told : m_told ≤ 64) (hz_m_taped : m_taped ≤ 100) (hz_m_at : m_at ≤ 100) (hz_m_to : m_to ≤ 100) (hz_m_many : m_many ≤ 64) (hz_m_readMany : m_readMany ≤ 64) (hz_m_size : m_size ≤ 64) (hR_mn : RB 0 255 mn) : ctI l yX9_unlike wsX9_unlike ({ frames := 1, cells := 0, slots := 0, locals := 60 } : Room) D (tyIJ cI cJ cK) [.ref m0] (wl_k_X9_unlike cI cJ cK m0 a_row a_tape a_number a_read a_readBits a_stands a_parted a_bitsWere a_stood a_chosen a_bestChosen a_often a_sorted a_risen a_risenWays m_thrown (nI m_told) (nI m_taped) (nI m_at) (nI m_to) (nI m_many) (nI m_readMany) m_fewest (nI m_size) mn mf) (fun (r : Int32) (u : va_W) => ∃ (mf' : Nat → Int32), u = (wl_k_X9_unlike cI cJ cK m0 a_row a_tape a_number a_read a_readBits a_stands a_parted a_bitsWere a_stood a_chosen a_bestChosen a_often a_sorted a_risen a_risenWays m_thrown (nI m_told) (nI m_taped) (nI m_at) (nI m_to) (nI m_many) (nI m_readMany) m_fewest (nI m_size) mn mf')) := by
  refine ctI.of (cc := cX9_unlike) (maxL := 3) (ret := (some .int)) (by decide) rfl (Nat.le_of_ble_eq_true rfl) ?_
  intro p e s m below meth c ls A hx hb hr hts hown hml hlocks hname hA hK hN hP hD hS hl
  have hl : lv_has ls 3 [(0, .ref m0)] := hl
  have hown : s.vm.findClass RX9 = some m.cls := hown
  have hi9 : ∀ w ∈ u_ws RX9 TX9 24, w ∈ wsX9_unlike := by decide +kernel
  have fl88 := hts (.fieldLink RX9 88 "PlaneColumnModel" "many" "I") (by decide +kernel)
  refine lv_aload_n hx hb dX9_unlike_0 rfl (lv_at hl 0 rfl) ?_
  refine lv_iconst (v := 0) hx hb dX9_unlike_1 (by decide +kernel) ?_
  refine lv_iconst (v := 0) hx hb dX9_unlike_2 (by decide +kernel) ?_
  refine lv_aload_n hx hb dX9_unlike_3 rfl (lv_at hl 0 rfl) ?_
  refine va_get (ci := 9) (v := .int (nI m_many)) (C := RX9) (T := TX9) (N := 24) hx hb hts hi9 hown hK hP 0 rfl rfl 7 (by decide) fl88 (fun _ h9 => h9) rfl dX9_unlike_4 ?_
  refine my_goVS (wc := (wl_k0_X9_counts cI cJ cK m0 a_row a_tape a_number a_read a_readBits a_stands a_parted a_bitsWere a_stood a_chosen a_bestChosen a_often a_sorted a_risen a_risenWays m_thrown (nI m_told) (nI m_taped) (nI m_at) (nI m_to) (nI m_many) (nI m_readMany) m_fewest (nI m_size) mn mf)) hP hD hS hA [0, 1, 2] rfl [some 0, some 1, some 2] (by decide +kernel) (my_cV (As := [.int 0, .int 0, .int (nI m_many)]) (rest := []) (ci := 9) (wc := (wl_k0_X9_counts cI cJ cK m0 a_row a_tape a_number a_read a_readBits a_stands a_parted a_bitsWere a_stood a_chosen a_bestChosen a_often a_sorted a_risen a_risenWays m_thrown (nI m_told) (nI m_taped) (nI m_at) (nI m_to) (nI m_many) (nI m_readMany) m_fewest (nI m_size) mn mf)) ⟨hx, hb, hml, hown, hts⟩ (cwV 3 hts gX9_unlike_X9_counts rfl rfl rfl (by decide +kernel) ⟨Nat.le_of_ble_eq_true rfl, Nat.le_of_ble_eq_true rfl⟩) hN hK hP hD [0, 1, 2] rfl (by decide) rfl 0 rfl rfl rfl rfl hl.1 rfl (Nat.le_of_ble_eq_true rfl) dX9_unlike_7 ⟨Nat.le_of_ble_eq_true rfl, Nat.le_of_ble_eq_true rfl⟩  ((k0_X9_counts l D cI cJ cK m0 a_row a_tape a_number a_read a_readBits a_stands a_parted a_bitsWere a_stood a_chosen a_bestChosen a_often a_sorted a_risen a_risenWays m_thrown m_told m_taped m_at m_to m_many m_readMany m_fewest m_size mn mf 0 m_many (by first | assumption | omega | decide +kernel) (by first | assumption | omega | decide +kernel) (by first | assumption | omega | decide +kernel) (by first | assumption | omega | decide +kernel) (by first | assumption | omega | decide +kernel) (by first | assumption | omega | decide +kernel) (by first | assumption | omega | decide +kernel) hR_mn (by first | assumption | omega | decide +kernel) (by first | assumption | omega | decide +kernel)) _)) (fun u H locs hp hPD hS => ?_)
  obtain ⟨mf_1, rfl, hcn0, hco0⟩ := hp
  obtain ⟨hP, hD⟩ := hPD rfl
  have hP : va_P D vwCl (wl_k_X9_unlike cI cJ cK m0 a_row a_tape a_number a_read a_readBits a_stands a_parted a_bitsWere a_stood a_chosen a_bestChosen a_often a_sorted a_risen a_risenWays m_thrown (nI m_told) (nI m_taped) (nI m_at) (nI m_to) (nI m_many) (nI m_readMany) m_fewest (nI m_size) mn mf_1) H := hP
  have hD : va_D A (wl_k_X9_unlike cI cJ cK m0 a_row a_tape a_number a_read a_readBits a_stands a_parted a_bitsWere a_stood a_chosen a_bestChosen a_often a_sorted a_risen a_risenWays m_thrown (nI m_told) (nI m_taped) (nI m_at) (nI m_to) (nI m_many) (nI m_readMany) m_fewest (nI m_size) mn mf_1) := hD
  refine lv_iconst (v := 0) hx hb dX9_unlike_10 (by decide +kernel) ?_
  refine lv_istore_n (lv' := [(1, .int 0), (0, .ref m0)]) hx hb dX9_unlike_11 rfl hl (by decide) rfl (fun ls hl => ?_)
  refine lv_iconst (v := 0) hx hb dX9_unlike_12 (by decide +kernel) ?_
  refine lv_istore_n (lv' := [(2, .int 0), (1, .int 0), (0, .ref m0)]) hx hb dX9_unlike_13 rfl hl (by decide) rfl (fun ls hl => ?_)
  have loop14 : ∀ (n9 : Nat) (k : Nat) (y1_14 : Int32), 256 - k < n9 → (k ≤ 256) → ∀ (H : Heap) (locs : List Loc) (ls : Array Slot), va_P D vwCl (wl_k_X9_unlike cI cJ cK m0 a_row a_tape a_number a_read a_readBits a_stands a_parted a_bitsWere a_stood a_chosen a_bestChosen a_often a_sorted a_risen a_risenWays m_thrown (nI m_told) (nI m_taped) (nI m_at) (nI m_to) (nI m_many) (nI m_readMany) m_fewest (nI m_size) mn mf_1) H → va_D A (wl_k_X9_unlike cI cJ cK m0 a_row a_tape a_number a_read a_readBits a_stands a_parted a_bitsWere a_stood a_chosen a_bestChosen a_often a_sorted a_risen a_risenWays m_thrown (nI m_told) (nI m_taped) (nI m_at) (nI m_to) (nI m_many) (nI m_readMany) m_fewest (nI m_size) mn mf_1) → va_S A s.heap H locs → lv_has ls 3 [(2, .int (nI k)), (1, .int y1_14), (0, .ref m0)] → W p l e ({ frames := 1, cells := 0, slots := 0, locals := 60 } : Room) s m [.ref m0].toArray below meth c H locs 0 0 (MQ below (va_Qi (fun (r : Int32) (u : va_W) => ∃ (mf' : Nat → Int32), u = (wl_k_X9_unlike cI cJ cK m0 a_row a_tape a_number a_read a_readBits a_stands a_parted a_bitsWere a_stood a_chosen a_bestChosen a_often a_sorted a_risen a_risenWays m_thrown (nI m_told) (nI m_taped) (nI m_at) (nI m_to) (nI m_many) (nI m_readMany) m_fewest (nI m_size) mn mf')) (my_B D (tyIJ cI cJ cK) A) A) [.ref m0].toArray s 0 0 A) (F0 m 14 ls []) := by
    intro n9
    induction n9 with
    | zero =>
      intro k y1_14 hn9
      exact absurd hn9 (Nat.not_lt_zero _)
    | succ n9 ih14 =>
      intro k y1_14 hn9 hk_k H locs ls hP hD hS hl
      refine lv_iload_n hx hb dX9_unlike_14 rfl (lv_at hl 0 rfl) ?_
      refine lv_sipush (v := 256) hx hb dX9_unlike_15 (by decide +kernel) ?_
      refine lv_icmp_ge (tgt := 47) hx hb dX9_unlike_18 (by decide) (fun c18 => ?_) (fun c18 => ?_)
      ·
        have d18 : ((k : Nat) : Int) ≥ (256 : Int) := my_ge c18 (nI_toInt (by omega)) (by decide +kernel)
        refine lv_iload_n hx hb dX9_unlike_47 rfl (lv_at hl 1 rfl) ?_
        exact my_retI hx hb hr hlocks hK hS (wl_k_X9_unlike cI cJ cK m0 a_row a_tape a_number a_read a_readBits a_stands a_parted a_bitsWere a_stood a_chosen a_bestChosen a_often a_sorted a_risen a_risenWays m_thrown (nI m_told) (nI m_taped) (nI m_at) (nI m_to) (nI m_many) (nI m_readMany) m_fewest (nI m_size) mn mf_1) hP hD (⟨mf_1, rfl⟩) dX9_unlike_48
      ·
        have d18 : ((k : Nat) : Int) < (256 : Int) := my_nge c18 (nI_toInt (by omega)) (by decide +kernel)
        refine lv_iload_n hx hb dX9_unlike_21 rfl (lv_at hl 1 rfl) ?_
        refine lv_aload_n hx hb dX9_unlike_22 rfl (lv_at hl 2 rfl) ?_
        refine lv_iconst (v := 0) hx hb dX9_unlike_23 (by decide +kernel) ?_
        refine lv_iload_n hx hb dX9_unlike_24 rfl (lv_at hl 0 rfl) ?_
        refine my_gpI (my_pV (As := [.int 0, .int (nI k)]) (rest := [.int y1_14]) (ci := 9) ⟨hx, hb, hml, hown, hts⟩ (cwV 2 hts gX9_unlike_X9_times rfl rfl rfl (by decide +kernel) ⟨Nat.le_of_ble_eq_true rfl, Nat.le_of_ble_eq_true rfl⟩) hN hK hP [0, 2] rfl 0 rfl rfl rfl rfl hl.1 rfl (Nat.le_of_ble_eq_true rfl) dX9_unlike_25 ⟨Nat.le_of_ble_eq_true rfl, Nat.le_of_ble_eq_true rfl⟩  (k0_X9_times l D cI cJ cK m0 a_row a_tape a_number a_read a_readBits a_stands a_parted a_bitsWere a_stood a_chosen a_bestChosen a_often a_sorted a_risen a_risenWays m_thrown m_told m_taped m_at m_to m_many m_readMany m_fewest m_size mf_1 k (by first | assumption | omega | decide +kernel) (by first | assumption | omega | decide +kernel) (by first | assumption | omega | decide +kernel) (by first | assumption | omega | decide +kernel) (by first | assumption | omega | decide +kernel) (by first | assumption | omega | decide +kernel) (by first | assumption | omega | decide +kernel) (by first | assumption | omega | decide +kernel))) (fun r hp => ?_)
        obtain rfl := hp
        refine lv_if_le (tgt := 35) hx hb dX9_unlike_28 (by decide) (fun c28 => ?_) (fun c28 => ?_)
        ·
          have d28 : (mf_1 k).toInt ≤ (0 : Int) := my_le c28 rfl (by decide +kernel)
          refine lv_iconst (v := 0) hx hb dX9_unlike_35 (by decide +kernel) ?_
          refine my_gpI (my_pS (As := [.int 0]) (rest := [.int y1_14]) ⟨hx, hb, hml, hown, hts⟩ (va_cwS 1 hts gX9_unlike_X9_flag rfl rfl rfl (by decide +kernel) ⟨Nat.le_of_ble_eq_true rfl, Nat.le_of_ble_eq_true rfl⟩) hN hK hP [] rfl rfl hl.1 rfl (Nat.le_of_ble_eq_true rfl) dX9_unlike_36 ⟨Nat.le_of_ble_eq_true rfl, Nat.le_of_ble_eq_true rfl⟩  (k0_X9_flag l D cI cJ cK )) (fun r hp => ?_)
          obtain rfl := hp
          refine lv_iadd hx hb dX9_unlike_39 ?_
          refine lv_topi (fun z_2 ez_2 => ?_)
          try have tz_2 : z_2.toInt = y1_14.toInt + (0 : Int) := by rw [ez_2]; exact my_addI rfl (by decide +kernel) (by omega) (by omega)
          refine lv_istore_n (lv' := [(1, .int z_2), (2, .int (nI k)), (0, .ref m0)]) hx hb dX9_unlike_40 rfl hl (by decide) rfl (fun ls hl => ?_)
          refine lv_iinc (v := nI (k + 1)) (lv' := [(2, .int (nI (k + 1))), (1, .int z_2), (0, .ref m0)]) hx hb dX9_unlike_41 hl (k := 1) rfl (my_incN k 1 (by decide +kernel)) (by decide) rfl (fun ls hl => ?_)
          refine lv_goto (tgt := 14) hx hb dX9_unlike_44 (by decide) ?_
          exact ih14  (k + 1) z_2 (by omega) (by first | assumption | omega | decide +kernel) _ _ ls hP hD hS (lv_sub hl [0, 1, 2] rfl)
        ·
          have d28 : (mf_1 k).toInt > (0 : Int) := my_nle c28 rfl (by decide +kernel)
          refine lv_iconst (v := 1) hx hb dX9_unlike_31 (by decide +kernel) ?_
          refine lv_goto (tgt := 36) hx hb dX9_unlike_32 (by decide) ?_
          refine my_gpI (my_pS (As := [.int 1]) (rest := [.int y1_14]) ⟨hx, hb, hml, hown, hts⟩ (va_cwS 1 hts gX9_unlike_X9_flag rfl rfl rfl (by decide +kernel) ⟨Nat.le_of_ble_eq_true rfl, Nat.le_of_ble_eq_true rfl⟩) hN hK hP [] rfl rfl hl.1 rfl (Nat.le_of_ble_eq_true rfl) dX9_unlike_36 ⟨Nat.le_of_ble_eq_true rfl, Nat.le_of_ble_eq_true rfl⟩  (k1_X9_flag l D cI cJ cK )) (fun r hp => ?_)
          obtain rfl := hp
          refine lv_iadd hx hb dX9_unlike_39 ?_
          refine lv_topi (fun z_3 ez_3 => ?_)
          try have tz_3 : z_3.toInt = y1_14.toInt + (1 : Int) := by rw [ez_3]; exact my_addI rfl (by decide +kernel) (by omega) (by omega)
          refine lv_istore_n (lv' := [(1, .int z_3), (2, .int (nI k)), (0, .ref m0)]) hx hb dX9_unlike_40 rfl hl (by decide) rfl (fun ls hl => ?_)
          refine lv_iinc (v := nI (k + 1)) (lv' := [(2, .int (nI (k + 1))), (1, .int z_3), (0, .ref m0)]) hx hb dX9_unlike_41 hl (k := 1) rfl (my_incN k 1 (by decide +kernel)) (by decide) rfl (fun ls hl => ?_)
          refine lv_goto (tgt := 14) hx hb dX9_unlike_44 (by decide) ?_
          exact ih14  (k + 1) z_3 (by omega) (by first | assumption | omega | decide +kernel) _ _ ls hP hD hS (lv_sub hl [0, 1, 2] rfl)
  have ec_4 : (0 : Int32).toInt = 0 := by decide +kernel
  exact loop14 ((256 - 0) + 1) 0 (0 : Int32) (Nat.lt_succ_self _) (by first | assumption | omega | decide +kernel) _ _ ls hP hD hS (lv_sub hl [0, 1, 2] rfl)
set_option maxHeartbeats 4000000 in
set_option maxRecDepth 100000 in
theorem k0_X9_together (l : Launch) (D : va_G) (cI cJ cK : ClassId) (m0 : Nat) (a_row : Nat) (a_tape : Nat) (a_number : Nat) (a_read : Nat) (a_readBits : Nat) (a_stands : Nat) (a_parted : Nat) (a_bitsWere : Nat) (a_stood : Nat) (a_chosen : Nat) (a_bestChosen : Nat) (a_often : Nat) (a_sorted : Nat) (a_risen : Nat) (a_risenWays : Nat) (m_thrown : Int32) (m_told : Nat) (m_taped : Nat) (m_at : Nat) (m_to : Nat) (m_many : Nat) (m_readMany : Nat) (m_fewest : Int32) (m_size : Nat) (mn : Nat → Int32) (hz_m_told : m_told ≤ 64) (hz_m_taped : m_taped ≤ 100) (hz_m_at : m_at ≤ 100) (hz_m_to : m_to ≤ 100) (hz_m_many : m_many ≤ 64) (hz_m_readMany : m_readMany ≤ 64) (hz_m_size : m_size ≤ 64) (hR_mn : RB 0 255 mn) : cpI l yX9_together wsX9_together ({ frames := 0, cells := 0, slots := 0, locals := 0 } : Room) D (tyIJ cI cJ cK) [.ref m0, .int 0] [(m0, .inr (9, [.int m_thrown, .int (nI m_told), .ref a_row, .ref a_tape, .int (nI m_taped), .int (nI m_at), .int (nI m_to), .int (nI m_many), .ref a_number, .ref a_read, .int (nI m_readMany), .ref a_readBits, .ref a_stands, .ref a_parted, .ref a_bitsWere, .ref a_stood, .ref a_chosen, .ref a_bestChosen, .int m_fewest, .ref a_often, .ref a_sorted, .int (nI m_size), .ref a_risen, .ref a_risenWays])), (a_number, .inl (cI, 64, .inl mn))] (fun (r : Int32) => True) := by
  refine cpI.of (cc := cX9_together) (maxL := 4) (ret := (some .int)) (by decide) rfl (Nat.le_of_ble_eq_true rfl) ?_
  intro p e s m below meth c ls hx hb hr hts hown hml hlocks hname hK hN hP hl
  have hl : lv_has ls 4 [(0, .ref m0), (1, .int 0)] := hl
  have hown : s.vm.findClass RX9 = some m.cls := hown
  have hi9 : ∀ w ∈ u_ws RX9 TX9 24, w ∈ wsX9_together := by decide +kernel
  have fl49 := hts (.fieldLink RX9 49 "PlaneColumnModel" "number" "[I") (by decide +kernel)
  have fl88 := hts (.fieldLink RX9 88 "PlaneColumnModel" "many" "I") (by decide +kernel)
  refine lv_iconst (v := 0) hx hb dX9_together_0 (by decide +kernel) ?_
  refine lv_istore_n (lv' := [(2, .int 0), (0, .ref m0), (1, .int 0)]) hx hb dX9_together_1 rfl hl (by decide) rfl (fun ls hl => ?_)
  refine lv_iconst (v := 0) hx hb dX9_together_2 (by decide +kernel) ?_
  refine lv_istore_n (lv' := [(3, .int 0), (2, .int 0), (0, .ref m0), (1, .int 0)]) hx hb dX9_together_3 rfl hl (by decide) rfl (fun ls hl => ?_)
  have loop4 : ∀ (n9 : Nat) (k : Nat) (y2_4 : Int32), 64 - k < n9 → (k ≤ 64) → ∀ (ls : Array Slot), lv_has ls 4 [(3, .int (nI k)), (2, .int y2_4), (0, .ref m0), (1, .int 0)] → W p l e ({ frames := 0, cells := 0, slots := 0, locals := 0 } : Room) s m [.ref m0, .int 0].toArray below meth c s.heap [] 0 0 (MQ below (vp_Si (fun (r : Int32) => True)) [.ref m0, .int 0].toArray s 0 0 (fun _ => False)) (F0 m 4 ls []) := by
    intro n9
    induction n9 with
    | zero =>
      intro k y2_4 hn9
      exact absurd hn9 (Nat.not_lt_zero _)
    | succ n9 ih4 =>
      intro k y2_4 hn9 hk_k ls hl
      refine lv_iload_n hx hb dX9_together_4 rfl (lv_at hl 0 rfl) ?_
      refine lv_aload_n hx hb dX9_together_5 rfl (lv_at hl 2 rfl) ?_
      refine va_get (ci := 9) (v := .int (nI m_many)) (C := RX9) (T := TX9) (N := 24) hx hb hts hi9 hown hK hP 0 rfl rfl 7 (by decide) fl88 (fun _ h9 => h9) rfl dX9_together_6 ?_
      refine lv_icmp_ge (tgt := 43) hx hb dX9_together_9 (by decide) (fun c9 => ?_) (fun c9 => ?_)
      ·
        have d9 : ((k : Nat) : Int) ≥ ((m_many : Nat) : Int) := my_ge c9 (nI_toInt (by omega)) (nI_toInt (by omega))
        refine lv_iload_n hx hb dX9_together_43 rfl (lv_at hl 1 rfl) ?_
        exact my_rpI hx hb hr hlocks (trivial) dX9_together_44
      ·
        have d9 : ((k : Nat) : Int) < ((m_many : Nat) : Int) := my_nge c9 (nI_toInt (by omega)) (nI_toInt (by omega))
        refine lv_iload_n hx hb dX9_together_12 rfl (lv_at hl 1 rfl) ?_
        refine lv_iload_n hx hb dX9_together_13 rfl (lv_at hl 3 rfl) ?_
        refine lv_if_eq (tgt := 29) hx hb dX9_together_14 (by decide) (fun c14 => ?_) (fun c14 => ?_)
        ·
          refine lv_aload_n hx hb dX9_together_29 rfl (lv_at hl 2 rfl) ?_
          refine va_get (ci := 9) (v := .ref a_number) (C := RX9) (T := TX9) (N := 24) hx hb hts hi9 hown hK hP 0 rfl rfl 8 (by decide) fl49 (fun _ h9 => h9) rfl dX9_together_30 ?_
          refine lv_iload_n hx hb dX9_together_33 rfl (lv_at hl 0 rfl) ?_
          refine va_iald hx hb hK hP 1 0 rfl rfl (vp_in_nI (by omega) (by omega)) dX9_together_34 ?_
          refine my_eqi (y := mn k) (congrArg mn (nI_clamp (by omega))) ?_
          have hb_1 := hR_mn k
          refine lv_iadd hx hb dX9_together_35 ?_
          refine lv_topi (fun z_2 ez_2 => ?_)
          try have tz_2 : z_2.toInt = y2_4.toInt + (mn k).toInt := by rw [ez_2]; exact my_addI rfl rfl (by omega) (by omega)
          refine lv_istore_n (lv' := [(2, .int z_2), (3, .int (nI k)), (0, .ref m0), (1, .int 0)]) hx hb dX9_together_36 rfl hl (by decide) rfl (fun ls hl => ?_)
          refine lv_iinc (v := nI (k + 1)) (lv' := [(3, .int (nI (k + 1))), (2, .int z_2), (0, .ref m0), (1, .int 0)]) hx hb dX9_together_37 hl (k := 1) rfl (my_incN k 1 (by decide +kernel)) (by decide) rfl (fun ls hl => ?_)
          refine lv_goto (tgt := 4) hx hb dX9_together_40 (by decide) ?_
          exact ih4  (k + 1) z_2 (by omega) (by first | assumption | omega | decide +kernel) ls (lv_sub hl [0, 1, 2, 3] rfl)
        ·
          exact absurd c14 (by decide +kernel)
  have ec_3 : (0 : Int32).toInt = 0 := by decide +kernel
  exact loop4 ((64 - 0) + 1) 0 (0 : Int32) (Nat.lt_succ_self _) (by first | assumption | omega | decide +kernel) ls (lv_sub hl [0, 1, 2, 3] rfl)
set_option maxHeartbeats 4000000 in
set_option maxRecDepth 100000 in
theorem k1_X9_together (l : Launch) (D : va_G) (cI cJ cK : ClassId) (m0 : Nat) (a_row : Nat) (a_tape : Nat) (a_number : Nat) (a_read : Nat) (a_readBits : Nat) (a_stands : Nat) (a_parted : Nat) (a_bitsWere : Nat) (a_stood : Nat) (a_chosen : Nat) (a_bestChosen : Nat) (a_often : Nat) (a_sorted : Nat) (a_risen : Nat) (a_risenWays : Nat) (m_thrown : Int32) (m_told : Nat) (m_taped : Nat) (m_at : Nat) (m_to : Nat) (m_many : Nat) (m_readMany : Nat) (m_fewest : Int32) (m_size : Nat) (mn : Nat → Int32) (hz_m_told : m_told ≤ 64) (hz_m_taped : m_taped ≤ 100) (hz_m_at : m_at ≤ 100) (hz_m_to : m_to ≤ 100) (hz_m_many : m_many ≤ 64) (hz_m_readMany : m_readMany ≤ 64) (hz_m_size : m_size ≤ 64) (hR_mn : RB 0 255 mn) : cpI l yX9_together wsX9_together ({ frames := 1, cells := 0, slots := 0, locals := 60 } : Room) D (tyIJ cI cJ cK) [.ref m0, .int 1] [(m0, .inr (9, [.int m_thrown, .int (nI m_told), .ref a_row, .ref a_tape, .int (nI m_taped), .int (nI m_at), .int (nI m_to), .int (nI m_many), .ref a_number, .ref a_read, .int (nI m_readMany), .ref a_readBits, .ref a_stands, .ref a_parted, .ref a_bitsWere, .ref a_stood, .ref a_chosen, .ref a_bestChosen, .int m_fewest, .ref a_often, .ref a_sorted, .int (nI m_size), .ref a_risen, .ref a_risenWays])), (a_number, .inl (cI, 64, .inl mn))] (fun (r : Int32) => True) := by
  refine cpI.of (cc := cX9_together) (maxL := 4) (ret := (some .int)) (by decide) rfl (Nat.le_of_ble_eq_true rfl) ?_
  intro p e s m below meth c ls hx hb hr hts hown hml hlocks hname hK hN hP hl
  have hl : lv_has ls 4 [(0, .ref m0), (1, .int 1)] := hl
  have hown : s.vm.findClass RX9 = some m.cls := hown
  have hi9 : ∀ w ∈ u_ws RX9 TX9 24, w ∈ wsX9_together := by decide +kernel
  have fl49 := hts (.fieldLink RX9 49 "PlaneColumnModel" "number" "[I") (by decide +kernel)
  have fl88 := hts (.fieldLink RX9 88 "PlaneColumnModel" "many" "I") (by decide +kernel)
  refine lv_iconst (v := 0) hx hb dX9_together_0 (by decide +kernel) ?_
  refine lv_istore_n (lv' := [(2, .int 0), (0, .ref m0), (1, .int 1)]) hx hb dX9_together_1 rfl hl (by decide) rfl (fun ls hl => ?_)
  refine lv_iconst (v := 0) hx hb dX9_together_2 (by decide +kernel) ?_
  refine lv_istore_n (lv' := [(3, .int 0), (2, .int 0), (0, .ref m0), (1, .int 1)]) hx hb dX9_together_3 rfl hl (by decide) rfl (fun ls hl => ?_)
  have loop4 : ∀ (n9 : Nat) (k : Nat) (y2_4 : Int32), 64 - k < n9 → (k ≤ 64) → ∀ (ls : Array Slot), lv_has ls 4 [(3, .int (nI k)), (2, .int y2_4), (0, .ref m0), (1, .int 1)] → W p l e ({ frames := 1, cells := 0, slots := 0, locals := 60 } : Room) s m [.ref m0, .int 1].toArray below meth c s.heap [] 0 0 (MQ below (vp_Si (fun (r : Int32) => True)) [.ref m0, .int 1].toArray s 0 0 (fun _ => False)) (F0 m 4 ls []) := by
    intro n9
    induction n9 with
    | zero =>
      intro k y2_4 hn9
      exact absurd hn9 (Nat.not_lt_zero _)
    | succ n9 ih4 =>
      intro k y2_4 hn9 hk_k ls hl
      refine lv_iload_n hx hb dX9_together_4 rfl (lv_at hl 0 rfl) ?_
      refine lv_aload_n hx hb dX9_together_5 rfl (lv_at hl 2 rfl) ?_
      refine va_get (ci := 9) (v := .int (nI m_many)) (C := RX9) (T := TX9) (N := 24) hx hb hts hi9 hown hK hP 0 rfl rfl 7 (by decide) fl88 (fun _ h9 => h9) rfl dX9_together_6 ?_
      refine lv_icmp_ge (tgt := 43) hx hb dX9_together_9 (by decide) (fun c9 => ?_) (fun c9 => ?_)
      ·
        have d9 : ((k : Nat) : Int) ≥ ((m_many : Nat) : Int) := my_ge c9 (nI_toInt (by omega)) (nI_toInt (by omega))
        refine lv_iload_n hx hb dX9_together_43 rfl (lv_at hl 1 rfl) ?_
        exact my_rpI hx hb hr hlocks (trivial) dX9_together_44
      ·
        have d9 : ((k : Nat) : Int) < ((m_many : Nat) : Int) := my_nge c9 (nI_toInt (by omega)) (nI_toInt (by omega))
        refine lv_iload_n hx hb dX9_together_12 rfl (lv_at hl 1 rfl) ?_
        refine lv_iload_n hx hb dX9_together_13 rfl (lv_at hl 3 rfl) ?_
        refine lv_if_eq (tgt := 29) hx hb dX9_together_14 (by decide) (fun c14 => ?_) (fun c14 => ?_)
        ·
          exact absurd c14 (by decide +kernel)
        ·
          refine lv_aload_n hx hb dX9_together_17 rfl (lv_at hl 2 rfl) ?_
          refine va_get (ci := 9) (v := .ref a_number) (C := RX9) (T := TX9) (N := 24) hx hb hts hi9 hown hK hP 0 rfl rfl 8 (by decide) fl49 (fun _ h9 => h9) rfl dX9_together_18 ?_
          refine lv_iload_n hx hb dX9_together_21 rfl (lv_at hl 0 rfl) ?_
          refine va_iald hx hb hK hP 1 0 rfl rfl (vp_in_nI (by omega) (by omega)) dX9_together_22 ?_
          refine my_eqi (y := mn k) (congrArg mn (nI_clamp (by omega))) ?_
          have hb_1 := hR_mn k
          refine my_gpI (my_pS (As := [.int (mn k)]) (rest := [.int y2_4]) ⟨hx, hb, hml, hown, hts⟩ (va_cwS 1 hts gX9_together_J6_bitCount_0f7a4 rfl rfl rfl (by decide +kernel) ⟨Nat.le_of_ble_eq_true rfl, Nat.le_of_ble_eq_true rfl⟩) hN hK hP [] rfl rfl hl.1 rfl (Nat.le_of_ble_eq_true rfl) dX9_together_23 ⟨Nat.le_of_ble_eq_true rfl, Nat.le_of_ble_eq_true rfl⟩  (k_J6_bitCount_0f7a4 l D cI cJ cK (mn k))) (fun r hp => ?_)
          obtain _ := hp
          obtain ⟨r_2, rfl⟩ : ∃ z, z = r := ⟨_, rfl⟩
          refine lv_goto (tgt := 35) hx hb dX9_together_26 (by decide) ?_
          refine lv_iadd hx hb dX9_together_35 ?_
          refine lv_topi (fun z_3 ez_3 => ?_)
          try have tz_3 : z_3.toInt = y2_4.toInt + r_2.toInt := by rw [ez_3]; exact my_addI rfl rfl (by omega) (by omega)
          refine lv_istore_n (lv' := [(2, .int z_3), (3, .int (nI k)), (0, .ref m0), (1, .int 1)]) hx hb dX9_together_36 rfl hl (by decide) rfl (fun ls hl => ?_)
          refine lv_iinc (v := nI (k + 1)) (lv' := [(3, .int (nI (k + 1))), (2, .int z_3), (0, .ref m0), (1, .int 1)]) hx hb dX9_together_37 hl (k := 1) rfl (my_incN k 1 (by decide +kernel)) (by decide) rfl (fun ls hl => ?_)
          refine lv_goto (tgt := 4) hx hb dX9_together_40 (by decide) ?_
          exact ih4  (k + 1) z_3 (by omega) (by first | assumption | omega | decide +kernel) ls (lv_sub hl [0, 1, 2, 3] rfl)
  have ec_4 : (0 : Int32).toInt = 0 := by decide +kernel
  exact loop4 ((64 - 0) + 1) 0 (0 : Int32) (Nat.lt_succ_self _) (by first | assumption | omega | decide +kernel) ls (lv_sub hl [0, 1, 2, 3] rfl)
abbrev wl_k_X9_count (cI cJ cK : ClassId) (m0 : Nat) (a_row : Nat) (a_tape : Nat) (a_number : Nat) (a_read : Nat) (a_readBits : Nat) (a_stands : Nat) (a_parted : Nat) (a_bitsWere : Nat) (a_stood : Nat) (a_chosen : Nat) (a_bestChosen : Nat) (a_often : Nat) (a_sorted : Nat) (a_risen : Nat) (a_risenWays : Nat) (v0_ : Int32) (v1_ : Int32) (v2_ : Int32) (v3_ : Int32) (v4_ : Int32) (v5_ : Int32) (v6_ : Int32) (v7_ : Int32) (v8_ : Int32) (v9_ : Nat → Int32) (v10_ : Nat → Int32) : va_W := [(m0, .inr (9, [.int v0_, .int v1_, .ref a_row, .ref a_tape, .int v2_, .int v3_, .int v4_, .int v5_, .ref a_number, .ref a_read, .int v6_, .ref a_readBits, .ref a_stands, .ref a_parted, .ref a_bitsWere, .ref a_stood, .ref a_chosen, .ref a_bestChosen, .int v7_, .ref a_often, .ref a_sorted, .int v8_, .ref a_risen, .ref a_risenWays])), (a_number, .inl (cI, 64, .inl v9_)), (a_often, .inl (cI, 512, .inl v10_))]
set_option maxHeartbeats 4000000 in
set_option maxRecDepth 100000 in
theorem k_X9_count (l : Launch) (D : va_G) (cI cJ cK : ClassId) (m0 : Nat) (a_row : Nat) (a_tape : Nat) (a_number : Nat) (a_read : Nat) (a_readBits : Nat) (a_stands : Nat) (a_parted : Nat) (a_bitsWere : Nat) (a_stood : Nat) (a_chosen : Nat) (a_bestChosen : Nat) (a_often : Nat) (a_sorted : Nat) (a_risen : Nat) (a_risenWays : Nat) (m_thrown : Int32) (m_told : Nat) (m_taped : Nat) (m_at : Nat) (m_to : Nat) (m_many : Nat) (m_readMany : Nat) (m_fewest : Int32) (m_size : Nat) (mn : Nat → Int32) (mf : Nat → Int32) (w9 : Int32) (hz_m_told : m_told ≤ 64) (hz_m_taped : m_taped ≤ 100) (hz_m_at : m_at ≤ 100) (hz_m_to : m_to ≤ 100) (hz_m_many : m_many ≤ 64) (hz_m_readMany : m_readMany ≤ 64) (hz_m_size : m_size ≤ 64) (hR_mn : RB 0 255 mn) : ctI l yX9_count wsX9_count ({ frames := 2, cells := 0, slots := 0, locals := 120 } : Room) D (tyIJ cI cJ cK) [.ref m0, .int w9] (wl_k_X9_count cI cJ cK m0 a_row a_tape a_number a_read a_readBits a_stands a_parted a_bitsWere a_stood a_chosen a_bestChosen a_often a_sorted a_risen a_risenWays m_thrown (nI m_told) (nI m_taped) (nI m_at) (nI m_to) (nI m_many) (nI m_readMany) m_fewest (nI m_size) mn mf) (fun (r : Int32) (u : va_W) => ∃ (m_thrown' : Int32) (mf' : Nat → Int32), u = (wl_k_X9_count cI cJ cK m0 a_row a_tape a_number a_read a_readBits a_stands a_parted a_bitsWere a_stood a_chosen a_bestChosen a_often a_sorted a_risen a_risenWays m_thrown' (nI m_told) (nI m_taped) (nI m_at) (nI m_to) (nI m_many) (nI m_readMany) m_fewest (nI m_size) mn mf')) := by
  refine ctI.of (cc := cX9_count) (maxL := 2) (ret := (some .int)) (by decide) rfl (Nat.le_of_ble_eq_true rfl) ?_
  intro p e s m below meth c ls A hx hb hr hts hown hml hlocks hname hA hK hN hP hD hS hl
  have hl : lv_has ls 2 [(0, .ref m0), (1, .int w9)] := hl
  have hown : s.vm.findClass RX9 = some m.cls := hown
  have hi9 : ∀ w ∈ u_ws RX9 TX9 24, w ∈ wsX9_count := by decide +kernel
  have fl1 := hts (.fieldLink RX9 1 "PlaneColumnModel" "thrown" "I") (by decide +kernel)
  have fl11 := hts (.fieldLink RX9 11 "PlaneColumnModel" "told" "I") (by decide +kernel)
  have fl14 := hts (.fieldLink RX9 14 "PlaneColumnModel" "taped" "I") (by decide +kernel)
  have fl88 := hts (.fieldLink RX9 88 "PlaneColumnModel" "many" "I") (by decide +kernel)
  refine lv_aload_n hx hb dX9_count_0 rfl (lv_at hl 0 rfl) ?_
  refine lv_iconst (v := 0) hx hb dX9_count_1 (by decide +kernel) ?_
  refine va_put (ci := 9) (v := .int 0) (ty := (.int)) (C := RX9) (T := TX9) (N := 24) hx hb hts hi9 tyX9 tyX9_ok nmX9 hown hK hP hD hS 0 rfl rfl 0 (by decide) fl1 (fun _ h9 => h9) rfl (by decide +kernel) rfl rfl (Nat.le_of_ble_eq_true rfl) dX9_count_2 (fun H locs hP hD hS => ?_)
  have hP : va_P D vwCl (wl_k_X9_count cI cJ cK m0 a_row a_tape a_number a_read a_readBits a_stands a_parted a_bitsWere a_stood a_chosen a_bestChosen a_often a_sorted a_risen a_risenWays 0 (nI m_told) (nI m_taped) (nI m_at) (nI m_to) (nI m_many) (nI m_readMany) m_fewest (nI m_size) mn mf) H := hP
  have hD : va_D A (wl_k_X9_count cI cJ cK m0 a_row a_tape a_number a_read a_readBits a_stands a_parted a_bitsWere a_stood a_chosen a_bestChosen a_often a_sorted a_risen a_risenWays 0 (nI m_told) (nI m_taped) (nI m_at) (nI m_to) (nI m_many) (nI m_readMany) m_fewest (nI m_size) mn mf) := hD
  refine lv_iload_n hx hb dX9_count_5 rfl (lv_at hl 1 rfl) ?_
  by_cases cs6 : w9.toInt < 0 ∨ 5 < w9.toInt
  ·
    refine lv_tableOut (tgt := 76) hx hb dX9_count_6 cs6 (by decide) ?_
    refine lv_iconst (v := (-1)) hx hb dX9_count_76 (by decide +kernel) ?_
    exact my_retI hx hb hr hlocks hK hS (wl_k_X9_count cI cJ cK m0 a_row a_tape a_number a_read a_readBits a_stands a_parted a_bitsWere a_stood a_chosen a_bestChosen a_often a_sorted a_risen a_risenWays 0 (nI m_told) (nI m_taped) (nI m_at) (nI m_to) (nI m_many) (nI m_readMany) m_fewest (nI m_size) mn mf) hP hD (⟨0, mf, rfl⟩) dX9_count_77
  ·
    by_cases cv6_0 : w9.toInt = 0
    ·
      refine lv_tableIn (off := 38) (tgt := 44) hx hb dX9_count_6 (by omega) (by omega) (by rw [cv6_0]; rfl) (by decide) ?_
      refine lv_aload_n hx hb dX9_count_44 rfl (lv_at hl 0 rfl) ?_
      refine va_get (ci := 9) (v := .int (nI m_many)) (C := RX9) (T := TX9) (N := 24) hx hb hts hi9 hown hK hP 0 rfl rfl 7 (by decide) fl88 (fun _ h9 => h9) rfl dX9_count_45 ?_
      exact my_retI hx hb hr hlocks hK hS (wl_k_X9_count cI cJ cK m0 a_row a_tape a_number a_read a_readBits a_stands a_parted a_bitsWere a_stood a_chosen a_bestChosen a_often a_sorted a_risen a_risenWays 0 (nI m_told) (nI m_taped) (nI m_at) (nI m_to) (nI m_many) (nI m_readMany) m_fewest (nI m_size) mn mf) hP hD (⟨0, mf, rfl⟩) dX9_count_48
    ·
      by_cases cv6_1 : w9.toInt = 1
      ·
        refine lv_tableIn (off := 43) (tgt := 49) hx hb dX9_count_6 (by omega) (by omega) (by rw [cv6_1]; rfl) (by decide) ?_
        refine lv_aload_n hx hb dX9_count_49 rfl (lv_at hl 0 rfl) ?_
        refine va_get (ci := 9) (v := .int (nI m_taped)) (C := RX9) (T := TX9) (N := 24) hx hb hts hi9 hown hK hP 0 rfl rfl 4 (by decide) fl14 (fun _ h9 => h9) rfl dX9_count_50 ?_
        exact my_retI hx hb hr hlocks hK hS (wl_k_X9_count cI cJ cK m0 a_row a_tape a_number a_read a_readBits a_stands a_parted a_bitsWere a_stood a_chosen a_bestChosen a_often a_sorted a_risen a_risenWays 0 (nI m_told) (nI m_taped) (nI m_at) (nI m_to) (nI m_many) (nI m_readMany) m_fewest (nI m_size) mn mf) hP hD (⟨0, mf, rfl⟩) dX9_count_53
      ·
        by_cases cv6_2 : w9.toInt = 2
        ·
          refine lv_tableIn (off := 48) (tgt := 54) hx hb dX9_count_6 (by omega) (by omega) (by rw [cv6_2]; rfl) (by decide) ?_
          refine lv_aload_n hx hb dX9_count_54 rfl (lv_at hl 0 rfl) ?_
          refine va_get (ci := 9) (v := .int (nI m_told)) (C := RX9) (T := TX9) (N := 24) hx hb hts hi9 hown hK hP 0 rfl rfl 1 (by decide) fl11 (fun _ h9 => h9) rfl dX9_count_55 ?_
          exact my_retI hx hb hr hlocks hK hS (wl_k_X9_count cI cJ cK m0 a_row a_tape a_number a_read a_readBits a_stands a_parted a_bitsWere a_stood a_chosen a_bestChosen a_often a_sorted a_risen a_risenWays 0 (nI m_told) (nI m_taped) (nI m_at) (nI m_to) (nI m_many) (nI m_readMany) m_fewest (nI m_size) mn mf) hP hD (⟨0, mf, rfl⟩) dX9_count_58
        ·
          by_cases cv6_3 : w9.toInt = 3
          ·
            refine lv_tableIn (off := 53) (tgt := 59) hx hb dX9_count_6 (by omega) (by omega) (by rw [cv6_3]; rfl) (by decide) ?_
            refine lv_aload_n hx hb dX9_count_59 rfl (lv_at hl 0 rfl) ?_
            refine my_goIS (wc := (wl_k_X9_unlike cI cJ cK m0 a_row a_tape a_number a_read a_readBits a_stands a_parted a_bitsWere a_stood a_chosen a_bestChosen a_often a_sorted a_risen a_risenWays 0 (nI m_told) (nI m_taped) (nI m_at) (nI m_to) (nI m_many) (nI m_readMany) m_fewest (nI m_size) mn mf)) hP hD hS hA [0, 1, 2] rfl [some 0, some 1, some 2] (by decide +kernel) (my_cV (As := []) (rest := []) (ci := 9) (wc := (wl_k_X9_unlike cI cJ cK m0 a_row a_tape a_number a_read a_readBits a_stands a_parted a_bitsWere a_stood a_chosen a_bestChosen a_often a_sorted a_risen a_risenWays 0 (nI m_told) (nI m_taped) (nI m_at) (nI m_to) (nI m_many) (nI m_readMany) m_fewest (nI m_size) mn mf)) ⟨hx, hb, hml, hown, hts⟩ (cwV 0 hts gX9_count_X9_unlike rfl rfl rfl (by decide +kernel) ⟨Nat.le_of_ble_eq_true rfl, Nat.le_of_ble_eq_true rfl⟩) hN hK hP hD [0, 1, 2] rfl (by decide) rfl 0 rfl rfl rfl rfl hl.1 rfl (Nat.le_of_ble_eq_true rfl) dX9_count_60 ⟨Nat.le_of_ble_eq_true rfl, Nat.le_of_ble_eq_true rfl⟩  ((k_X9_unlike l D cI cJ cK m0 a_row a_tape a_number a_read a_readBits a_stands a_parted a_bitsWere a_stood a_chosen a_bestChosen a_often a_sorted a_risen a_risenWays (0 : Int32) m_told m_taped m_at m_to m_many m_readMany m_fewest m_size mn mf (by first | assumption | omega | decide +kernel) (by first | assumption | omega | decide +kernel) (by first | assumption | omega | decide +kernel) (by first | assumption | omega | decide +kernel) (by first | assumption | omega | decide +kernel) (by first | assumption | omega | decide +kernel) (by first | assumption | omega | decide +kernel) hR_mn) _)) (fun r u H locs hp hPD hS => ?_)
            obtain ⟨mf_1, rfl⟩ := hp
            obtain ⟨r_2, rfl⟩ : ∃ z, z = r := ⟨_, rfl⟩
            obtain ⟨hP, hD⟩ := hPD rfl
            have hP : va_P D vwCl (wl_k_X9_count cI cJ cK m0 a_row a_tape a_number a_read a_readBits a_stands a_parted a_bitsWere a_stood a_chosen a_bestChosen a_often a_sorted a_risen a_risenWays 0 (nI m_told) (nI m_taped) (nI m_at) (nI m_to) (nI m_many) (nI m_readMany) m_fewest (nI m_size) mn mf_1) H := hP
            have hD : va_D A (wl_k_X9_count cI cJ cK m0 a_row a_tape a_number a_read a_readBits a_stands a_parted a_bitsWere a_stood a_chosen a_bestChosen a_often a_sorted a_risen a_risenWays 0 (nI m_told) (nI m_taped) (nI m_at) (nI m_to) (nI m_many) (nI m_readMany) m_fewest (nI m_size) mn mf_1) := hD
            exact my_retI hx hb hr hlocks hK hS (wl_k_X9_count cI cJ cK m0 a_row a_tape a_number a_read a_readBits a_stands a_parted a_bitsWere a_stood a_chosen a_bestChosen a_often a_sorted a_risen a_risenWays 0 (nI m_told) (nI m_taped) (nI m_at) (nI m_to) (nI m_many) (nI m_readMany) m_fewest (nI m_size) mn mf_1) hP hD (⟨0, mf_1, rfl⟩) dX9_count_63
          ·
            by_cases cv6_4 : w9.toInt = 4
            ·
              refine lv_tableIn (off := 58) (tgt := 64) hx hb dX9_count_6 (by omega) (by omega) (by rw [cv6_4]; rfl) (by decide) ?_
              refine lv_aload_n hx hb dX9_count_64 rfl (lv_at hl 0 rfl) ?_
              refine lv_iconst (v := 0) hx hb dX9_count_65 (by decide +kernel) ?_
              refine my_gpI (my_pV (As := [.int 0]) (rest := []) (ci := 9) ⟨hx, hb, hml, hown, hts⟩ (cwV 1 hts gX9_count_X9_together rfl rfl rfl (by decide +kernel) ⟨Nat.le_of_ble_eq_true rfl, Nat.le_of_ble_eq_true rfl⟩) hN hK hP [0, 1] rfl 0 rfl rfl rfl rfl hl.1 rfl (Nat.le_of_ble_eq_true rfl) dX9_count_66 ⟨Nat.le_of_ble_eq_true rfl, Nat.le_of_ble_eq_true rfl⟩  (k0_X9_together l D cI cJ cK m0 a_row a_tape a_number a_read a_readBits a_stands a_parted a_bitsWere a_stood a_chosen a_bestChosen a_often a_sorted a_risen a_risenWays (0 : Int32) m_told m_taped m_at m_to m_many m_readMany m_fewest m_size mn (by first | assumption | omega | decide +kernel) (by first | assumption | omega | decide +kernel) (by first | assumption | omega | decide +kernel) (by first | assumption | omega | decide +kernel) (by first | assumption | omega | decide +kernel) (by first | assumption | omega | decide +kernel) (by first | assumption | omega | decide +kernel) hR_mn)) (fun r hp => ?_)
              obtain _ := hp
              obtain ⟨r_3, rfl⟩ : ∃ z, z = r := ⟨_, rfl⟩
              exact my_retI hx hb hr hlocks hK hS (wl_k_X9_count cI cJ cK m0 a_row a_tape a_number a_read a_readBits a_stands a_parted a_bitsWere a_stood a_chosen a_bestChosen a_often a_sorted a_risen a_risenWays 0 (nI m_told) (nI m_taped) (nI m_at) (nI m_to) (nI m_many) (nI m_readMany) m_fewest (nI m_size) mn mf) hP hD (⟨0, mf, rfl⟩) dX9_count_69
            ·
              have cv6_5 : w9.toInt = 5 := by omega
              refine lv_tableIn (off := 64) (tgt := 70) hx hb dX9_count_6 (by omega) (by omega) (by rw [cv6_5]; rfl) (by decide) ?_
              refine lv_aload_n hx hb dX9_count_70 rfl (lv_at hl 0 rfl) ?_
              refine lv_iconst (v := 1) hx hb dX9_count_71 (by decide +kernel) ?_
              refine my_gpI (my_pV (As := [.int 1]) (rest := []) (ci := 9) ⟨hx, hb, hml, hown, hts⟩ (cwV 1 hts gX9_count_X9_together rfl rfl rfl (by decide +kernel) ⟨Nat.le_of_ble_eq_true rfl, Nat.le_of_ble_eq_true rfl⟩) hN hK hP [0, 1] rfl 0 rfl rfl rfl rfl hl.1 rfl (Nat.le_of_ble_eq_true rfl) dX9_count_72 ⟨Nat.le_of_ble_eq_true rfl, Nat.le_of_ble_eq_true rfl⟩  (k1_X9_together l D cI cJ cK m0 a_row a_tape a_number a_read a_readBits a_stands a_parted a_bitsWere a_stood a_chosen a_bestChosen a_often a_sorted a_risen a_risenWays (0 : Int32) m_told m_taped m_at m_to m_many m_readMany m_fewest m_size mn (by first | assumption | omega | decide +kernel) (by first | assumption | omega | decide +kernel) (by first | assumption | omega | decide +kernel) (by first | assumption | omega | decide +kernel) (by first | assumption | omega | decide +kernel) (by first | assumption | omega | decide +kernel) (by first | assumption | omega | decide +kernel) hR_mn)) (fun r hp => ?_)
              obtain _ := hp
              obtain ⟨r_4, rfl⟩ : ∃ z, z = r := ⟨_, rfl⟩
              exact my_retI hx hb hr hlocks hK hS (wl_k_X9_count cI cJ cK m0 a_row a_tape a_number a_read a_readBits a_stands a_parted a_bitsWere a_stood a_chosen a_bestChosen a_often a_sorted a_risen a_risenWays 0 (nI m_told) (nI m_taped) (nI m_at) (nI m_to) (nI m_many) (nI m_readMany) m_fewest (nI m_size) mn mf) hP hD (⟨0, mf, rfl⟩) dX9_count_75
abbrev wl_k_X9_row (cI cJ cK : ClassId) (m0 : Nat) (a_row : Nat) (a_tape : Nat) (a_number : Nat) (a_read : Nat) (a_readBits : Nat) (a_stands : Nat) (a_parted : Nat) (a_bitsWere : Nat) (a_stood : Nat) (a_chosen : Nat) (a_bestChosen : Nat) (a_often : Nat) (a_sorted : Nat) (a_risen : Nat) (a_risenWays : Nat) (v0_ : Int32) (v1_ : Int32) (v2_ : Int32) (v3_ : Int32) (v4_ : Int32) (v5_ : Int32) (v6_ : Int32) (v7_ : Int32) (v8_ : Int32) (v9_ : Nat → Int64) : va_W := [(m0, .inr (9, [.int v0_, .int v1_, .ref a_row, .ref a_tape, .int v2_, .int v3_, .int v4_, .int v5_, .ref a_number, .ref a_read, .int v6_, .ref a_readBits, .ref a_stands, .ref a_parted, .ref a_bitsWere, .ref a_stood, .ref a_chosen, .ref a_bestChosen, .int v7_, .ref a_often, .ref a_sorted, .int v8_, .ref a_risen, .ref a_risenWays])), (a_row, .inl (cJ, 64, .inr (.inl v9_)))]
set_option maxHeartbeats 4000000 in
set_option maxRecDepth 100000 in
theorem k_X9_row (l : Launch) (D : va_G) (cI cJ cK : ClassId) (m0 : Nat) (a_row : Nat) (a_tape : Nat) (a_number : Nat) (a_read : Nat) (a_readBits : Nat) (a_stands : Nat) (a_parted : Nat) (a_bitsWere : Nat) (a_stood : Nat) (a_chosen : Nat) (a_bestChosen : Nat) (a_often : Nat) (a_sorted : Nat) (a_risen : Nat) (a_risenWays : Nat) (m_thrown : Int32) (m_told : Nat) (m_taped : Nat) (m_at : Nat) (m_to : Nat) (m_many : Nat) (m_readMany : Nat) (m_fewest : Int32) (m_size : Nat) (mr : Nat → Int64) (i9 : Int32) (hz_m_told : m_told ≤ 64) (hz_m_taped : m_taped ≤ 100) (hz_m_at : m_at ≤ 100) (hz_m_to : m_to ≤ 100) (hz_m_many : m_many ≤ 64) (hz_m_readMany : m_readMany ≤ 64) (hz_m_size : m_size ≤ 64) : ctL l yX9_row wsX9_row ({ frames := 1, cells := 0, slots := 0, locals := 60 } : Room) D (tyIJ cI cJ cK) [.ref m0, .int i9] (wl_k_X9_row cI cJ cK m0 a_row a_tape a_number a_read a_readBits a_stands a_parted a_bitsWere a_stood a_chosen a_bestChosen a_often a_sorted a_risen a_risenWays m_thrown (nI m_told) (nI m_taped) (nI m_at) (nI m_to) (nI m_many) (nI m_readMany) m_fewest (nI m_size) mr) (fun (r : Int64) (u : va_W) => (u = (wl_k_X9_row cI cJ cK m0 a_row a_tape a_number a_read a_readBits a_stands a_parted a_bitsWere a_stood a_chosen a_bestChosen a_often a_sorted a_risen a_risenWays 1 (nI m_told) (nI m_taped) (nI m_at) (nI m_to) (nI m_many) (nI m_readMany) m_fewest (nI m_size) mr) ∧ (i9.toInt < 0 ∨ m_told ≤ i9.toInt)) ∨ (u = (wl_k_X9_row cI cJ cK m0 a_row a_tape a_number a_read a_readBits a_stands a_parted a_bitsWere a_stood a_chosen a_bestChosen a_often a_sorted a_risen a_risenWays 0 (nI m_told) (nI m_taped) (nI m_at) (nI m_to) (nI m_many) (nI m_readMany) m_fewest (nI m_size) mr) ∧ 0 ≤ i9.toInt ∧ i9.toInt < m_told ∧ r = mr i9.toInt.toNat)) := by
  refine ctL.of (cc := cX9_row) (maxL := 2) (ret := (some .long)) (by decide) rfl (Nat.le_of_ble_eq_true rfl) ?_
  intro p e s m below meth c ls A hx hb hr hts hown hml hlocks hname hA hK hN hP hD hS hl
  have hl : lv_has ls 2 [(0, .ref m0), (1, .int i9)] := hl
  have hown : s.vm.findClass RX9 = some m.cls := hown
  have hi9 : ∀ w ∈ u_ws RX9 TX9 24, w ∈ wsX9_row := by decide +kernel
  have fl1 := hts (.fieldLink RX9 1 "PlaneColumnModel" "thrown" "I") (by decide +kernel)
  have fl11 := hts (.fieldLink RX9 11 "PlaneColumnModel" "told" "I") (by decide +kernel)
  have fl7 := hts (.fieldLink RX9 7 "PlaneColumnModel" "row" "[J") (by decide +kernel)
  refine lv_aload_n hx hb dX9_row_0 rfl (lv_at hl 0 rfl) ?_
  refine lv_iload_n hx hb dX9_row_1 rfl (lv_at hl 1 rfl) ?_
  refine lv_i2l (v := i9.toInt64) hx hb dX9_row_2 rfl ?_
  refine lv_lconst (v := 0) hx hb dX9_row_3 (by decide +kernel) ?_
  refine lv_aload_n hx hb dX9_row_4 rfl (lv_at hl 0 rfl) ?_
  refine va_get (ci := 9) (v := .int (nI m_told)) (C := RX9) (T := TX9) (N := 24) hx hb hts hi9 hown hK hP 0 rfl rfl 1 (by decide) fl11 (fun _ h9 => h9) rfl dX9_row_5 ?_
  refine lv_iconst (v := 1) hx hb dX9_row_8 (by decide +kernel) ?_
  refine lv_isub hx hb dX9_row_9 ?_
  refine lv_topi (fun z_1 ez_1 => ?_)
  try have tz_1 : z_1.toInt = ((m_told : Nat) : Int) - (1 : Int) := by rw [ez_1]; exact my_subI (nI_toInt (by omega)) (by decide +kernel) (by omega) (by omega)
  refine lv_i2l (v := z_1.toInt64) hx hb dX9_row_10 rfl ?_
  refine my_gpI (my_pS (As := [.long i9.toInt64, .long 0, .long z_1.toInt64]) (rest := [.ref m0]) ⟨hx, hb, hml, hown, hts⟩ (va_cwS 3 hts gX9_row_X9_in rfl rfl rfl (by decide +kernel) ⟨Nat.le_of_ble_eq_true rfl, Nat.le_of_ble_eq_true rfl⟩) hN hK hP [] rfl rfl hl.1 rfl (Nat.le_of_ble_eq_true rfl) dX9_row_11 ⟨Nat.le_of_ble_eq_true rfl, Nat.le_of_ble_eq_true rfl⟩  (k_X9_in l D cI cJ cK i9.toInt64 (0 : Int64) z_1.toInt64 i9.toInt (Int32.toInt_toInt64 _) (0 : Int) (by decide +kernel) z_1.toInt (Int32.toInt_toInt64 _))) (fun r hp => ?_)
  rcases hp with ⟨rfl, ha_2, hb_3⟩ | ⟨rfl, ho_4⟩
  ·
    refine lv_if_ne (tgt := 21) hx hb dX9_row_14 (by decide) (fun c14 => ?_) (fun c14 => ?_)
    ·
      refine lv_iconst (v := 0) hx hb dX9_row_21 (by decide +kernel) ?_
      refine my_gpI (my_pS (As := [.int 0]) (rest := [.ref m0]) ⟨hx, hb, hml, hown, hts⟩ (va_cwS 1 hts gX9_row_X9_flag rfl rfl rfl (by decide +kernel) ⟨Nat.le_of_ble_eq_true rfl, Nat.le_of_ble_eq_true rfl⟩) hN hK hP [] rfl rfl hl.1 rfl (Nat.le_of_ble_eq_true rfl) dX9_row_22 ⟨Nat.le_of_ble_eq_true rfl, Nat.le_of_ble_eq_true rfl⟩  (k0_X9_flag l D cI cJ cK )) (fun r hp => ?_)
      obtain rfl := hp
      refine va_put (ci := 9) (v := .int 0) (ty := (.int)) (C := RX9) (T := TX9) (N := 24) hx hb hts hi9 tyX9 tyX9_ok nmX9 hown hK hP hD hS 0 rfl rfl 0 (by decide) fl1 (fun _ h9 => h9) rfl (by decide +kernel) rfl rfl (Nat.le_of_ble_eq_true rfl) dX9_row_25 (fun H locs hP hD hS => ?_)
      have hP : va_P D vwCl (wl_k_X9_row cI cJ cK m0 a_row a_tape a_number a_read a_readBits a_stands a_parted a_bitsWere a_stood a_chosen a_bestChosen a_often a_sorted a_risen a_risenWays 0 (nI m_told) (nI m_taped) (nI m_at) (nI m_to) (nI m_many) (nI m_readMany) m_fewest (nI m_size) mr) H := hP
      have hD : va_D A (wl_k_X9_row cI cJ cK m0 a_row a_tape a_number a_read a_readBits a_stands a_parted a_bitsWere a_stood a_chosen a_bestChosen a_often a_sorted a_risen a_risenWays 0 (nI m_told) (nI m_taped) (nI m_at) (nI m_to) (nI m_many) (nI m_readMany) m_fewest (nI m_size) mr) := hD
      refine lv_aload_n hx hb dX9_row_28 rfl (lv_at hl 0 rfl) ?_
      refine va_get (ci := 9) (v := .int 0) (C := RX9) (T := TX9) (N := 24) hx hb hts hi9 hown hK hP 0 rfl rfl 0 (by decide) fl1 (fun _ h9 => h9) rfl dX9_row_29 ?_
      refine lv_iconst (v := 1) hx hb dX9_row_32 (by decide +kernel) ?_
      refine lv_icmp_ne (tgt := 40) hx hb dX9_row_33 (by decide) (fun c33 => ?_) (fun c33 => ?_)
      ·
        refine lv_aload_n hx hb dX9_row_40 rfl (lv_at hl 0 rfl) ?_
        refine va_get (ci := 9) (v := .ref a_row) (C := RX9) (T := TX9) (N := 24) hx hb hts hi9 hown hK hP 0 rfl rfl 2 (by decide) fl7 (fun _ h9 => h9) rfl dX9_row_41 ?_
        refine lv_iload_n hx hb dX9_row_44 rfl (lv_at hl 1 rfl) ?_
        refine va_lald hx hb hK hP 1 1 rfl rfl (vp_in_iff.mpr ⟨by omega, by omega⟩) dX9_row_45 ?_
        refine my_eql (y := mr i9.toInt.toNat) (congrArg mr (my_clamp (by omega))) ?_
        exact my_retL hx hb hr hlocks hK hS (wl_k_X9_row cI cJ cK m0 a_row a_tape a_number a_read a_readBits a_stands a_parted a_bitsWere a_stood a_chosen a_bestChosen a_often a_sorted a_risen a_risenWays 0 (nI m_told) (nI m_taped) (nI m_at) (nI m_to) (nI m_many) (nI m_readMany) m_fewest (nI m_size) mr) hP hD (Or.inr (⟨rfl, (by first | assumption | omega | trivial | decide +kernel), (by first | assumption | omega | trivial | decide +kernel), (by first | rfl | omega)⟩)) dX9_row_46
      ·
        exact absurd c33 (by decide +kernel)
    ·
      exact absurd c14 (by decide +kernel)
  ·
    refine lv_if_ne (tgt := 21) hx hb dX9_row_14 (by decide) (fun c14 => ?_) (fun c14 => ?_)
    ·
      exact absurd c14 (by decide +kernel)
    ·
      refine lv_iconst (v := 1) hx hb dX9_row_17 (by decide +kernel) ?_
      refine lv_goto (tgt := 22) hx hb dX9_row_18 (by decide) ?_
      refine my_gpI (my_pS (As := [.int 1]) (rest := [.ref m0]) ⟨hx, hb, hml, hown, hts⟩ (va_cwS 1 hts gX9_row_X9_flag rfl rfl rfl (by decide +kernel) ⟨Nat.le_of_ble_eq_true rfl, Nat.le_of_ble_eq_true rfl⟩) hN hK hP [] rfl rfl hl.1 rfl (Nat.le_of_ble_eq_true rfl) dX9_row_22 ⟨Nat.le_of_ble_eq_true rfl, Nat.le_of_ble_eq_true rfl⟩  (k1_X9_flag l D cI cJ cK )) (fun r hp => ?_)
      obtain rfl := hp
      refine va_put (ci := 9) (v := .int 1) (ty := (.int)) (C := RX9) (T := TX9) (N := 24) hx hb hts hi9 tyX9 tyX9_ok nmX9 hown hK hP hD hS 0 rfl rfl 0 (by decide) fl1 (fun _ h9 => h9) rfl (by decide +kernel) rfl rfl (Nat.le_of_ble_eq_true rfl) dX9_row_25 (fun H locs hP hD hS => ?_)
      have hP : va_P D vwCl (wl_k_X9_row cI cJ cK m0 a_row a_tape a_number a_read a_readBits a_stands a_parted a_bitsWere a_stood a_chosen a_bestChosen a_often a_sorted a_risen a_risenWays 1 (nI m_told) (nI m_taped) (nI m_at) (nI m_to) (nI m_many) (nI m_readMany) m_fewest (nI m_size) mr) H := hP
      have hD : va_D A (wl_k_X9_row cI cJ cK m0 a_row a_tape a_number a_read a_readBits a_stands a_parted a_bitsWere a_stood a_chosen a_bestChosen a_often a_sorted a_risen a_risenWays 1 (nI m_told) (nI m_taped) (nI m_at) (nI m_to) (nI m_many) (nI m_readMany) m_fewest (nI m_size) mr) := hD
      refine lv_aload_n hx hb dX9_row_28 rfl (lv_at hl 0 rfl) ?_
      refine va_get (ci := 9) (v := .int 1) (C := RX9) (T := TX9) (N := 24) hx hb hts hi9 hown hK hP 0 rfl rfl 0 (by decide) fl1 (fun _ h9 => h9) rfl dX9_row_29 ?_
      refine lv_iconst (v := 1) hx hb dX9_row_32 (by decide +kernel) ?_
      refine lv_icmp_ne (tgt := 40) hx hb dX9_row_33 (by decide) (fun c33 => ?_) (fun c33 => ?_)
      ·
        exact absurd c33 (by decide +kernel)
      ·
        refine lv_lconst (v := 0) hx hb dX9_row_36 (by decide +kernel) ?_
        refine lv_goto (tgt := 46) hx hb dX9_row_37 (by decide) ?_
        exact my_retL hx hb hr hlocks hK hS (wl_k_X9_row cI cJ cK m0 a_row a_tape a_number a_read a_readBits a_stands a_parted a_bitsWere a_stood a_chosen a_bestChosen a_often a_sorted a_risen a_risenWays 1 (nI m_told) (nI m_taped) (nI m_at) (nI m_to) (nI m_many) (nI m_readMany) m_fewest (nI m_size) mr) hP hD (Or.inl ⟨rfl, (by first | assumption | omega | trivial | decide +kernel)⟩) dX9_row_46
