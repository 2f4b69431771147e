abbrev wl_k0_X9_counts (cI cJ cK : ClassId) (m0 : Nat) (a_row : Nat) (a_tape : Nat) (a_number : Nat) (a_read : Nat) (a_readBits : Nat) (a_stands : Nat) (a_parted : Nat) (a_bitsWere : Nat) (a_stood : Nat) (a_chosen : Nat) (a_bestChosen : Nat) (a_often : Nat) (a_sorted : Nat) (a_risen : Nat) (a_risenWays : Nat) (v0_ : Int32) (v1_ : Int32) (v2_ : Int32) (v3_ : Int32) (v4_ : Int32) (v5_ : Int32) (v6_ : Int32) (v7_ : Int32) (v8_ : Int32) (v9_ : Nat → Int32) (v10_ : Nat → Int32) : va_W := [(m0, .inr (9, [.int v0_, .int v1_, .ref a_row, .ref a_tape, .int v2_, .int v3_, .int v4_, .int v5_, .ref a_number, .ref a_read, .int v6_, .ref a_readBits, .ref a_stands, .ref a_parted, .ref a_bitsWere, .ref a_stood, .ref a_chosen, .ref a_bestChosen, .int v7_, .ref a_often, .ref a_sorted, .int v8_, .ref a_risen, .ref a_risenWays])), (a_number, .inl (cI, 64, .inl v9_)), (a_often, .inl (cI, 512, .inl v10_))]
set_option maxHeartbeats 4000000 in
set_option maxRecDepth 100000 in
theorem k0_X9_counts (l : Launch) (D : va_G) (cI cJ cK : ClassId) (m0 : Nat) (a_row : Nat) (a_tape : Nat) (a_number : Nat) (a_read : Nat) (a_readBits : Nat) (a_stands : Nat) (a_parted : Nat) (a_bitsWere : Nat) (a_stood : Nat) (a_chosen : Nat) (a_bestChosen : Nat) (a_often : Nat) (a_sorted : Nat) (a_risen : Nat) (a_risenWays : Nat) (m_thrown : Int32) (m_told : Nat) (m_taped : Nat) (m_at : Nat) (m_to : Nat) (m_many : Nat) (m_readMany : Nat) (m_fewest : Int32) (m_size : Nat) (mn : Nat → Int32) (mf : Nat → Int32) (a : Nat) (b : Nat) (hz_m_told : m_told ≤ 64) (hz_m_taped : m_taped ≤ 100) (hz_m_at : m_at ≤ 100) (hz_m_to : m_to ≤ 100) (hz_m_many : m_many ≤ 64) (hz_m_readMany : m_readMany ≤ 64) (hz_m_size : m_size ≤ 64) (hR_mn : RB 0 255 mn) (hab : a ≤ b) (hb9 : b ≤ 64) : ctV l yX9_counts wsX9_counts ({ frames := 0, cells := 0, slots := 0, locals := 0 } : Room) D (tyIJ cI cJ cK) [.ref m0, .int 0, .int (nI a), .int (nI b)] (wl_k0_X9_counts cI cJ cK m0 a_row a_tape a_number a_read a_readBits a_stands a_parted a_bitsWere a_stood a_chosen a_bestChosen a_often a_sorted a_risen a_risenWays m_thrown (nI m_told) (nI m_taped) (nI m_at) (nI m_to) (nI m_many) (nI m_readMany) m_fewest (nI m_size) mn mf) (fun (u : va_W) => ∃ (mf' : Nat → Int32), u = (wl_k0_X9_counts cI cJ cK m0 a_row a_tape a_number a_read a_readBits a_stands a_parted a_bitsWere a_stood a_chosen a_bestChosen a_often a_sorted a_risen a_risenWays m_thrown (nI m_told) (nI m_taped) (nI m_at) (nI m_to) (nI m_many) (nI m_readMany) m_fewest (nI m_size) mn mf') ∧ (∀ v, v < 256 → mf' v = nI (cn mn v a b)) ∧ (∀ j, 256 ≤ j → mf' j = mf j)) := by
  refine ctV.of (cc := cX9_counts) (maxL := 5) (ret := none) (by decide) rfl (Nat.le_of_ble_eq_true rfl) ?_
  intro p e s m below meth c ls A hx hb hr hts hown hml hlocks hname hA hK hN hP hD hS hl
  have hl : lv_has ls 5 [(0, .ref m0), (1, .int 0), (2, .int (nI a)), (3, .int (nI b))] := hl
  have hown : s.vm.findClass RX9 = some m.cls := hown
  have hi9 : ∀ w ∈ u_ws RX9 TX9 24, w ∈ wsX9_counts := by decide +kernel
  have fl49 := hts (.fieldLink RX9 49 "PlaneColumnModel" "number" "[I") (by decide +kernel)
  have fl76 := hts (.fieldLink RX9 76 "PlaneColumnModel" "often" "[I") (by decide +kernel)
  refine lv_iconst (v := 0) hx hb dX9_counts_0 (by decide +kernel) ?_
  refine lv_istore (lv' := [(4, .int 0), (0, .ref m0), (1, .int 0), (2, .int (nI a)), (3, .int (nI b))]) hx hb dX9_counts_1 hl (by decide) rfl (fun ls hl => ?_)
  have loop3 : ∀ (n9 : Nat) (v3 : Nat) (a_often_3 : Nat → Int32), 256 - v3 < n9 → (v3 ≤ 256) → (∀ u, u < v3 → a_often_3 u = 0) → (∀ j, 256 ≤ j → a_often_3 j = mf j) → ∀ (H : Heap) (locs : List Loc) (ls : Array Slot), va_P D vwCl (wl_k0_X9_counts cI cJ cK m0 a_row a_tape a_number a_read a_readBits a_stands a_parted a_bitsWere a_stood a_chosen a_bestChosen a_often a_sorted a_risen a_risenWays m_thrown (nI m_told) (nI m_taped) (nI m_at) (nI m_to) (nI m_many) (nI m_readMany) m_fewest (nI m_size) mn a_often_3) H → va_D A (wl_k0_X9_counts cI cJ cK m0 a_row a_tape a_number a_read a_readBits a_stands a_parted a_bitsWere a_stood a_chosen a_bestChosen a_often a_sorted a_risen a_risenWays m_thrown (nI m_told) (nI m_taped) (nI m_at) (nI m_to) (nI m_many) (nI m_readMany) m_fewest (nI m_size) mn a_often_3) → va_S A s.heap H locs → lv_has ls 5 [(4, .int (nI v3)), (0, .ref m0), (1, .int 0), (2, .int (nI a)), (3, .int (nI b))] → W p l e ({ frames := 0, cells := 0, slots := 0, locals := 0 } : Room) s m [.ref m0, .int 0, .int (nI a), .int (nI b)].toArray below meth c H locs 0 0 (MQ below (va_Qv (fun (u : va_W) => ∃ (mf' : Nat → Int32), u = (wl_k0_X9_counts cI cJ cK m0 a_row a_tape a_number a_read a_readBits a_stands a_parted a_bitsWere a_stood a_chosen a_bestChosen a_often a_sorted a_risen a_risenWays m_thrown (nI m_told) (nI m_taped) (nI m_at) (nI m_to) (nI m_many) (nI m_readMany) m_fewest (nI m_size) mn mf') ∧ (∀ v, v < 256 → mf' v = nI (cn mn v a b)) ∧ (∀ j, 256 ≤ j → mf' j = mf j)) (my_B D (tyIJ cI cJ cK) A) A) [.ref m0, .int 0, .int (nI a), .int (nI b)].toArray s 0 0 A) (F0 m 3 ls []) := by
    intro n9
    induction n9 with
    | zero =>
      intro v3 a_often_3 hn9
      exact absurd hn9 (Nat.not_lt_zero _)
    | succ n9 ih3 =>
      intro v3 a_often_3 hn9 hk_v3 hz hoz H locs ls hP hD hS hl
      refine lv_iload hx hb dX9_counts_3 (lv_at hl 0 rfl) ?_
      refine lv_sipush (v := 256) hx hb dX9_counts_5 (by decide +kernel) ?_
      refine lv_icmp_ge (tgt := 31) hx hb dX9_counts_8 (by decide) (fun c8 => ?_) (fun c8 => ?_)
      ·
        have d8 : ((v3 : Nat) : Int) ≥ (256 : Int) := my_ge c8 (nI_toInt (by omega)) (by decide +kernel)
        refine lv_iload_n hx hb dX9_counts_31 rfl (lv_at hl 3 rfl) ?_
        refine lv_istore (lv' := [(4, .int (nI a)), (0, .ref m0), (1, .int 0), (2, .int (nI a)), (3, .int (nI b))]) hx hb dX9_counts_32 hl (by decide) rfl (fun ls hl => ?_)
        have loop34 : ∀ (n9 : Nat) (k : Nat) (a_often_34 : Nat → Int32), b - k < n9 → (k ≤ b) → (a ≤ k) → (∀ v, v < 256 → a_often_34 v = nI (cn mn v a k)) → (∀ j, 256 ≤ j → a_often_34 j = mf j) → ∀ (H : Heap) (locs : List Loc) (ls : Array Slot), va_P D vwCl (wl_k0_X9_counts cI cJ cK m0 a_row a_tape a_number a_read a_readBits a_stands a_parted a_bitsWere a_stood a_chosen a_bestChosen a_often a_sorted a_risen a_risenWays m_thrown (nI m_told) (nI m_taped) (nI m_at) (nI m_to) (nI m_many) (nI m_readMany) m_fewest (nI m_size) mn a_often_34) H → va_D A (wl_k0_X9_counts cI cJ cK m0 a_row a_tape a_number a_read a_readBits a_stands a_parted a_bitsWere a_stood a_chosen a_bestChosen a_often a_sorted a_risen a_risenWays m_thrown (nI m_told) (nI m_taped) (nI m_at) (nI m_to) (nI m_many) (nI m_readMany) m_fewest (nI m_size) mn a_often_34) → va_S A s.heap H locs → lv_has ls 5 [(4, .int (nI k)), (0, .ref m0), (1, .int 0), (2, .int (nI a)), (3, .int (nI b))] → W p l e ({ frames := 0, cells := 0, slots := 0, locals := 0 } : Room) s m [.ref m0, .int 0, .int (nI a), .int (nI b)].toArray below meth c H locs 0 0 (MQ below (va_Qv (fun (u : va_W) => ∃ (mf' : Nat → Int32), u = (wl_k0_X9_counts cI cJ cK m0 a_row a_tape a_number a_read a_readBits a_stands a_parted a_bitsWere a_stood a_chosen a_bestChosen a_often a_sorted a_risen a_risenWays m_thrown (nI m_told) (nI m_taped) (nI m_at) (nI m_to) (nI m_many) (nI m_readMany) m_fewest (nI m_size) mn mf') ∧ (∀ v, v < 256 → mf' v = nI (cn mn v a b)) ∧ (∀ j, 256 ≤ j → mf' j = mf j)) (my_B D (tyIJ cI cJ cK) A) A) [.ref m0, .int 0, .int (nI a), .int (nI b)].toArray s 0 0 A) (F0 m 34 ls []) := by
          intro n9
          induction n9 with
          | zero =>
            intro k a_often_34 hn9
            exact absurd hn9 (Nat.not_lt_zero _)
          | succ n9 ih34 =>
            intro k a_often_34 hn9 hk_k hak hc hoc H locs ls hP hD hS hl
            refine lv_iload hx hb dX9_counts_34 (lv_at hl 0 rfl) ?_
            refine lv_iload_n hx hb dX9_counts_36 rfl (lv_at hl 4 rfl) ?_
            refine lv_icmp_ge (tgt := 68) hx hb dX9_counts_37 (by decide) (fun c37 => ?_) (fun c37 => ?_)
            ·
              have d37 : ((k : Nat) : Int) ≥ ((b : Nat) : Int) := my_ge c37 (nI_toInt (by omega)) (nI_toInt (by omega))
              exact my_retV hx hb hr hlocks hK hS (wl_k0_X9_counts cI cJ cK m0 a_row a_tape a_number a_read a_readBits a_stands a_parted a_bitsWere a_stood a_chosen a_bestChosen a_often a_sorted a_risen a_risenWays m_thrown (nI m_told) (nI m_taped) (nI m_at) (nI m_to) (nI m_many) (nI m_readMany) m_fewest (nI m_size) mn a_often_34) hP hD (⟨a_often_34, rfl, (by have e9 : k = b := (by omega); subst e9; exact hc), hoc⟩) dX9_counts_68
            ·
              have d37 : ((k : Nat) : Int) < ((b : Nat) : Int) := my_nge c37 (nI_toInt (by omega)) (nI_toInt (by omega))
              refine lv_aload_n hx hb dX9_counts_40 rfl (lv_at hl 1 rfl) ?_
              refine va_get (ci := 9) (v := .ref a_often) (C := RX9) (T := TX9) (N := 24) hx hb hts hi9 hown hK hP 0 rfl rfl 19 (by decide) fl76 (fun _ h9 => h9) rfl dX9_counts_41 ?_
              refine lv_sipush (v := 256) hx hb dX9_counts_44 (by decide +kernel) ?_
              refine lv_iload_n hx hb dX9_counts_47 rfl (lv_at hl 2 rfl) ?_
              refine lv_imul hx hb dX9_counts_48 ?_
              refine my_eqi (y := 0) (by decide +kernel) ?_
              refine lv_aload_n hx hb dX9_counts_49 rfl (lv_at hl 1 rfl) ?_
              refine va_get (ci := 9) (v := .ref a_number) (C := RX9) (T := TX9) (N := 24) hx hb hts hi9 hown hK hP 0 rfl rfl 8 (by decide) fl49 (fun _ h9 => h9) rfl dX9_counts_50 ?_
              refine lv_iload hx hb dX9_counts_53 (lv_at hl 0 rfl) ?_
              refine va_iald hx hb hK hP 1 0 rfl rfl (vp_in_nI (by omega) (by omega)) dX9_counts_55 ?_
              refine my_eqi (y := mn k) (congrArg mn (nI_clamp (by omega))) ?_
              have hb_1 := hR_mn k
              obtain ⟨w_2, ew_2, hw_2⟩ : ∃ w : Nat, (mn k) = nI w ∧ (w : Int) = (mn k : Int32).toInt := my_natE (by omega)
              refine my_eqi (y := nI w_2) ew_2 ?_
              refine lv_iadd hx hb dX9_counts_56 ?_
              refine my_eqi (y := nI w_2) (my_addN2 w_2 0) ?_
              refine lv_dup2_11 hx hb dX9_counts_57 rfl rfl ?_
              refine va_iald hx hb hK hP 2 0 rfl rfl (vp_in_nI (by omega) (by omega)) dX9_counts_58 ?_
              refine my_eqi (y := a_often_34 w_2) (congrArg a_often_34 (nI_clamp (by omega))) ?_
              refine lv_iconst (v := 1) hx hb dX9_counts_59 (by decide +kernel) ?_
              refine lv_iadd hx hb dX9_counts_60 ?_
              refine lv_topi (fun z_4 ez_4 => ?_)
              try have tz_4 : z_4.toInt = (a_often_34 w_2).toInt + (1 : Int) := by rw [ez_4]; exact my_addI rfl (by decide +kernel) (by omega) (by omega)
              refine va_iast hx hb hK hP hD hS 2 0 rfl rfl (vp_in_nI (by omega) (by omega)) dX9_counts_61 (fun H locs hP hD hS => ?_)
              obtain ⟨g_5, eg_5⟩ : ∃ g : Nat → Int32, g = upd a_often_34 w_2 z_4 := ⟨_, rfl⟩
              have eU : upd a_often_34 (nI w_2 : Int32).toNatClampNeg z_4 = g_5 := by rw [eg_5, show (nI w_2 : Int32).toNatClampNeg = w_2 from nI_clamp (by omega)]
              rw [eU] at hP hD
              have hP : va_P D vwCl (wl_k0_X9_counts cI cJ cK m0 a_row a_tape a_number a_read a_readBits a_stands a_parted a_bitsWere a_stood a_chosen a_bestChosen a_often a_sorted a_risen a_risenWays m_thrown (nI m_told) (nI m_taped) (nI m_at) (nI m_to) (nI m_many) (nI m_readMany) m_fewest (nI m_size) mn g_5) H := hP
              have hD : va_D A (wl_k0_X9_counts cI cJ cK m0 a_row a_tape a_number a_read a_readBits a_stands a_parted a_bitsWere a_stood a_chosen a_bestChosen a_often a_sorted a_risen a_risenWays m_thrown (nI m_told) (nI m_taped) (nI m_at) (nI m_to) (nI m_many) (nI m_readMany) m_fewest (nI m_size) mn g_5) := hD
              refine lv_iinc (v := nI (k + 1)) (lv' := [(4, .int (nI (k + 1))), (0, .ref m0), (1, .int 0), (2, .int (nI a)), (3, .int (nI b))]) hx hb dX9_counts_62 hl (k := 0) rfl (my_incN k 1 (by decide +kernel)) (by decide) rfl (fun ls hl => ?_)
              refine lv_goto (tgt := 34) hx hb dX9_counts_65 (by decide) ?_
              exact ih34  (k + 1) g_5 (by omega) (by first | assumption | omega | decide +kernel) (by first | assumption | omega | decide +kernel) (cn_step0 (by assumption) (by assumption) (by assumption) hc (by omega) (by omega) (by omega)) (up_hi (by assumption) hoc (by omega)) _ _ ls hP hD hS (lv_sub hl [0, 1, 2, 3, 4] rfl)
        exact loop34 ((b - a) + 1) a a_often_3 (Nat.lt_succ_self _) (by first | assumption | omega | decide +kernel) (by first | assumption | omega | decide +kernel) (fun v hv => by rw [cn_start (Nat.le_refl a)]; exact hz v (by omega)) (hoz) _ _ ls hP hD hS (lv_sub hl [0, 1, 2, 3, 4] rfl)
      ·
        have d8 : ((v3 : Nat) : Int) < (256 : Int) := my_nge c8 (nI_toInt (by omega)) (by decide +kernel)
        refine lv_aload_n hx hb dX9_counts_11 rfl (lv_at hl 1 rfl) ?_
        refine va_get (ci := 9) (v := .ref a_often) (C := RX9) (T := TX9) (N := 24) hx hb hts hi9 hown hK hP 0 rfl rfl 19 (by decide) fl76 (fun _ h9 => h9) rfl dX9_counts_12 ?_
        refine lv_sipush (v := 256) hx hb dX9_counts_15 (by decide +kernel) ?_
        refine lv_iload_n hx hb dX9_counts_18 rfl (lv_at hl 2 rfl) ?_
        refine lv_imul hx hb dX9_counts_19 ?_
        refine my_eqi (y := 0) (by decide +kernel) ?_
        refine lv_iload hx hb dX9_counts_20 (lv_at hl 0 rfl) ?_
        refine lv_iadd hx hb dX9_counts_22 ?_
        refine my_eqi (y := nI v3) (my_addN2 v3 0) ?_
        refine lv_iconst (v := 0) hx hb dX9_counts_23 (by decide +kernel) ?_
        refine va_iast hx hb hK hP hD hS 2 0 rfl rfl (vp_in_nI (by omega) (by omega)) dX9_counts_24 (fun H locs hP hD hS => ?_)
        obtain ⟨g_6, eg_6⟩ : ∃ g : Nat → Int32, g = upd a_often_3 v3 0 := ⟨_, rfl⟩
        have eU : upd a_often_3 (nI v3 : Int32).toNatClampNeg 0 = g_6 := by rw [eg_6, show (nI v3 : Int32).toNatClampNeg = v3 from nI_clamp (by omega)]
        rw [eU] at hP hD
        have hP : va_P D vwCl (wl_k0_X9_counts cI cJ cK m0 a_row a_tape a_number a_read a_readBits a_stands a_parted a_bitsWere a_stood a_chosen a_bestChosen a_often a_sorted a_risen a_risenWays m_thrown (nI m_told) (nI m_taped) (nI m_at) (nI m_to) (nI m_many) (nI m_readMany) m_fewest (nI m_size) mn g_6) H := hP
        have hD : va_D A (wl_k0_X9_counts cI cJ cK m0 a_row a_tape a_number a_read a_readBits a_stands a_parted a_bitsWere a_stood a_chosen a_bestChosen a_often a_sorted a_risen a_risenWays m_thrown (nI m_told) (nI m_taped) (nI m_at) (nI m_to) (nI m_many) (nI m_readMany) m_fewest (nI m_size) mn g_6) := hD
        refine lv_iinc (v := nI (v3 + 1)) (lv' := [(4, .int (nI (v3 + 1))), (0, .ref m0), (1, .int 0), (2, .int (nI a)), (3, .int (nI b))]) hx hb dX9_counts_25 hl (k := 0) rfl (my_incN v3 1 (by decide +kernel)) (by decide) rfl (fun ls hl => ?_)
        refine lv_goto (tgt := 3) hx hb dX9_counts_28 (by decide) ?_
        exact ih3  (v3 + 1) g_6 (by omega) (by first | assumption | omega | decide +kernel) (zr_step0 (by assumption) hz) (up_hi (by assumption) hoz (by omega)) _ _ ls hP hD hS (lv_sub hl [0, 1, 2, 3, 4] rfl)
  exact loop3 ((256 - 0) + 1) 0 mf (Nat.lt_succ_self _) (by first | assumption | omega | decide +kernel) (fun u h => absurd h (Nat.not_lt_zero u)) (fun j _ => rfl) _ _ ls hP hD hS (lv_sub hl [0, 1, 2, 3, 4] rfl)
set_option maxHeartbeats 4000000 in
set_option maxRecDepth 100000 in
theorem k0_X9_times (l : Launch) (D : va_G) (cI cJ cK : ClassId) (m0 : Nat) (a_row : Nat) (a_tape : Nat) (a_number : Nat) (a_read : Nat) (a_readBits : Nat) (a_stands : Nat) (a_parted : Nat) (a_bitsWere : Nat) (a_stood : Nat) (a_chosen : Nat) (a_bestChosen : Nat) (a_often : Nat) (a_sorted : Nat) (a_risen : Nat) (a_risenWays : Nat) (m_thrown : Int32) (m_told : Nat) (m_taped : Nat) (m_at : Nat) (m_to : Nat) (m_many : Nat) (m_readMany : Nat) (m_fewest : Int32) (m_size : Nat) (mf : Nat → Int32) (v : Nat) (hz_m_told : m_told ≤ 64) (hz_m_taped : m_taped ≤ 100) (hz_m_at : m_at ≤ 100) (hz_m_to : m_to ≤ 100) (hz_m_many : m_many ≤ 64) (hz_m_readMany : m_readMany ≤ 64) (hz_m_size : m_size ≤ 64) (hv : v ≤ 255) : cpI l yX9_times wsX9_times ({ frames := 0, cells := 0, slots := 0, locals := 0 } : Room) D (tyIJ cI cJ cK) [.ref m0, .int 0, .int (nI v)] [(m0, .inr (9, [.int m_thrown, .int (nI m_told), .ref a_row, .ref a_tape, .int (nI m_taped), .int (nI m_at), .int (nI m_to), .int (nI m_many), .ref a_number, .ref a_read, .int (nI m_readMany), .ref a_readBits, .ref a_stands, .ref a_parted, .ref a_bitsWere, .ref a_stood, .ref a_chosen, .ref a_bestChosen, .int m_fewest, .ref a_often, .ref a_sorted, .int (nI m_size), .ref a_risen, .ref a_risenWays])), (a_often, .inl (cI, 512, .inl mf))] (fun (r : Int32) => r = mf v) := by
  refine cpI.of (cc := cX9_times) (maxL := 3) (ret := (some .int)) (by decide) rfl (Nat.le_of_ble_eq_true rfl) ?_
  intro p e s m below meth c ls hx hb hr hts hown hml hlocks hname hK hN hP hl
  have hl : lv_has ls 3 [(0, .ref m0), (1, .int 0), (2, .int (nI v))] := hl
  have hown : s.vm.findClass RX9 = some m.cls := hown
  have hi9 : ∀ w ∈ u_ws RX9 TX9 24, w ∈ wsX9_times := by decide +kernel
  have fl76 := hts (.fieldLink RX9 76 "PlaneColumnModel" "often" "[I") (by decide +kernel)
  refine lv_aload_n hx hb dX9_times_0 rfl (lv_at hl 0 rfl) ?_
  refine va_get (ci := 9) (v := .ref a_often) (C := RX9) (T := TX9) (N := 24) hx hb hts hi9 hown hK hP 0 rfl rfl 19 (by decide) fl76 (fun _ h9 => h9) rfl dX9_times_1 ?_
  refine lv_sipush (v := 256) hx hb dX9_times_4 (by decide +kernel) ?_
  refine lv_iload_n hx hb dX9_times_7 rfl (lv_at hl 1 rfl) ?_
  refine lv_imul hx hb dX9_times_8 ?_
  refine my_eqi (y := 0) (by decide +kernel) ?_
  refine lv_iload_n hx hb dX9_times_9 rfl (lv_at hl 2 rfl) ?_
  refine lv_iadd hx hb dX9_times_10 ?_
  refine my_eqi (y := nI v) (my_addN2 v 0) ?_
  refine va_iald hx hb hK hP 1 0 rfl rfl (vp_in_nI (by omega) (by omega)) dX9_times_11 ?_
  refine my_eqi (y := mf v) (congrArg mf (nI_clamp (by omega))) ?_
  exact my_rpI hx hb hr hlocks (rfl) dX9_times_12
set_option maxHeartbeats 4000000 in
set_option maxRecDepth 100000 in
theorem kt_X9_times (l : Launch) (D : va_G) (cI cJ cK : ClassId) (m0 : Nat) (a_row : Nat) (a_tape : Nat) (a_number : Nat) (a_read : Nat) (a_readBits : Nat) (a_stands : Nat) (a_parted : Nat) (a_bitsWere : Nat) (a_stood : Nat) (a_chosen : Nat) (a_bestChosen : Nat) (a_often : Nat) (a_sorted : Nat) (a_risen : Nat) (a_risenWays : Nat) (m_thrown : Int32) (m_told : Nat) (m_taped : Nat) (m_at : Nat) (m_to : Nat) (m_many : Nat) (m_readMany : Nat) (m_fewest : Int32) (m_size : Nat) (mf : Nat → Int32) (v : Nat) (cf : Nat → Nat) (hz_m_told : m_told ≤ 64) (hz_m_taped : m_taped ≤ 100) (hz_m_at : m_at ≤ 100) (hz_m_to : m_to ≤ 100) (hz_m_many : m_many ≤ 64) (hz_m_readMany : m_readMany ≤ 64) (hz_m_size : m_size ≤ 64) (hv : v < 256) (hcf : ∀ v, v < 256 → mf v = nI (cf v)) (hc64 : cf v ≤ 64) : cpI l yX9_times wsX9_times ({ frames := 0, cells := 0, slots := 0, locals := 0 } : Room) D (tyIJ cI cJ cK) [.ref m0, .int 0, .int (nI v)] [(m0, .inr (9, [.int m_thrown, .int (nI m_told), .ref a_row, .ref a_tape, .int (nI m_taped), .int (nI m_at), .int (nI m_to), .int (nI m_many), .ref a_number, .ref a_read, .int (nI m_readMany), .ref a_readBits, .ref a_stands, .ref a_parted, .ref a_bitsWere, .ref a_stood, .ref a_chosen, .ref a_bestChosen, .int m_fewest, .ref a_often, .ref a_sorted, .int (nI m_size), .ref a_risen, .ref a_risenWays])), (a_often, .inl (cI, 512, .inl mf))] (fun (r : Int32) => ∃ (t' : Nat), r = nI t' ∧ t' = cf v ∧ t' ≤ 64) := by
  refine cpI.of (cc := cX9_times) (maxL := 3) (ret := (some .int)) (by decide) rfl (Nat.le_of_ble_eq_true rfl) ?_
  intro p e s m below meth c ls hx hb hr hts hown hml hlocks hname hK hN hP hl
  have hl : lv_has ls 3 [(0, .ref m0), (1, .int 0), (2, .int (nI v))] := hl
  have hown : s.vm.findClass RX9 = some m.cls := hown
  have hi9 : ∀ w ∈ u_ws RX9 TX9 24, w ∈ wsX9_times := by decide +kernel
  have fl76 := hts (.fieldLink RX9 76 "PlaneColumnModel" "often" "[I") (by decide +kernel)
  refine lv_aload_n hx hb dX9_times_0 rfl (lv_at hl 0 rfl) ?_
  refine va_get (ci := 9) (v := .ref a_often) (C := RX9) (T := TX9) (N := 24) hx hb hts hi9 hown hK hP 0 rfl rfl 19 (by decide) fl76 (fun _ h9 => h9) rfl dX9_times_1 ?_
  refine lv_sipush (v := 256) hx hb dX9_times_4 (by decide +kernel) ?_
  refine lv_iload_n hx hb dX9_times_7 rfl (lv_at hl 1 rfl) ?_
  refine lv_imul hx hb dX9_times_8 ?_
  refine my_eqi (y := 0) (by decide +kernel) ?_
  refine lv_iload_n hx hb dX9_times_9 rfl (lv_at hl 2 rfl) ?_
  refine lv_iadd hx hb dX9_times_10 ?_
  refine my_eqi (y := nI v) (my_addN2 v 0) ?_
  refine va_iald hx hb hK hP 1 0 rfl rfl (vp_in_nI (by omega) (by omega)) dX9_times_11 ?_
  refine my_eqi (y := mf v) (congrArg mf (nI_clamp (by omega))) ?_
  exact my_rpI hx hb hr hlocks (⟨(cf v), (hcf v hv), rfl, hc64⟩) dX9_times_12
set_option maxHeartbeats 4000000 in
set_option maxRecDepth 100000 in
theorem kw_X9_within (l : Launch) (D : va_G) (cI cJ cK : ClassId) (m0 : Nat) (a_row : Nat) (a_tape : Nat) (a_number : Nat) (a_read : Nat) (a_readBits : Nat) (a_stands : Nat) (a_parted : Nat) (a_bitsWere : Nat) (a_stood : Nat) (a_chosen : Nat) (a_bestChosen : Nat) (a_often : Nat) (a_sorted : Nat) (a_risen : Nat) (a_risenWays : Nat) (m_thrown : Int32) (m_told : Nat) (m_taped : Nat) (m_at : Nat) (m_to : Nat) (m_many : Nat) (m_readMany : Nat) (m_fewest : Int32) (m_size : Nat) (mf : Nat → Int32) (a : Nat) (b : Nat) (cf : Nat → Nat) (hz_m_told : m_told ≤ 64) (hz_m_taped : m_taped ≤ 100) (hz_m_at : m_at ≤ 100) (hz_m_to : m_to ≤ 100) (hz_m_many : m_many ≤ 64) (hz_m_readMany : m_readMany ≤ 64) (hz_m_size : m_size ≤ 64) (hab : a ≤ b + 1) (hb9 : b ≤ 255) (hcf : ∀ v, v < 256 → mf v = nI (cf v)) (hc64 : ∀ v, cf v ≤ 64) : cpI l yX9_within wsX9_within ({ frames := 1, cells := 0, slots := 0, locals := 60 } : Room) D (tyIJ cI cJ cK) [.ref m0, .int 0, .int (nI a), .int (nI b)] [(m0, .inr (9, [.int m_thrown, .int (nI m_told), .ref a_row, .ref a_tape, .int (nI m_taped), .int (nI m_at), .int (nI m_to), .int (nI m_many), .ref a_number, .ref a_read, .int (nI m_readMany), .ref a_readBits, .ref a_stands, .ref a_parted, .ref a_bitsWere, .ref a_stood, .ref a_chosen, .ref a_bestChosen, .int m_fewest, .ref a_often, .ref a_sorted, .int (nI m_size), .ref a_risen, .ref a_risenWays])), (a_often, .inl (cI, 512, .inl mf))] (fun (r : Int32) => ∃ (t' : Nat), r = nI t' ∧ t' + fb_sm cf a = fb_sm cf (b + 1) ∧ True) := by
  refine cpI.of (cc := cX9_within) (maxL := 6) (ret := (some .int)) (by decide) rfl (Nat.le_of_ble_eq_true rfl) ?_
  intro p e s m below meth c ls hx hb hr hts hown hml hlocks hname hK hN hP hl
  have hl : lv_has ls 6 [(0, .ref m0), (1, .int 0), (2, .int (nI a)), (3, .int (nI b))] := hl
  have hown : s.vm.findClass RX9 = some m.cls := hown
  refine lv_iconst (v := 0) hx hb dX9_within_0 (by decide +kernel) ?_
  refine lv_istore (lv' := [(4, .int 0), (0, .ref m0), (1, .int 0), (2, .int (nI a)), (3, .int (nI b))]) hx hb dX9_within_1 hl (by decide) rfl (fun ls hl => ?_)
  refine lv_iconst (v := 0) hx hb dX9_within_3 (by decide +kernel) ?_
  refine lv_iload_n hx hb dX9_within_4 rfl (lv_at hl 3 rfl) ?_
  refine va_mmax hx hb (hml.trans hl.1.symm) hown (hts (.methodLink RX9 181 Lib.Math.max.name) (by decide +kernel)) (hts (.static Lib.Math.max.name) (by decide +kernel)) (hts (.initialized "java/lang/Math") (by decide +kernel)) (hts (.code Lib.Math.max.name Lib.Math.max.code 2 (some .int)) (by decide +kernel)) (Nat.le_of_ble_eq_true rfl) (Nat.le_of_ble_eq_true rfl) (Nat.le_of_ble_eq_true rfl) (Nat.le_of_ble_eq_true rfl) dX9_within_5 ?_
  refine lv_topi (fun z_1 ez_1 => ?_)
  have tz_1 := my_maxI (a := (0 : Int)) (b := ((a : Nat) : Int)) ez_1 (by decide +kernel) (nI_toInt (by omega))
  obtain ⟨w_2, ew_2, hw_2⟩ : ∃ w : Nat, z_1 = nI w ∧ (w : Int) = (z_1 : Int32).toInt := my_natE (by omega)
  refine my_eqi (y := nI w_2) ew_2 ?_
  refine lv_istore (lv' := [(5, .int (nI w_2)), (4, .int 0), (0, .ref m0), (1, .int 0), (2, .int (nI a)), (3, .int (nI b))]) hx hb dX9_within_8 hl (by decide) rfl (fun ls hl => ?_)
  have loop10 : ∀ (n9 : Nat) (v : Nat) (t : Nat), 256 - v < n9 → (v ≤ 256) → (a ≤ v) → (v ≤ b + 1) → (t + fb_sm cf a = fb_sm cf v) → ∀ (ls : Array Slot), lv_has ls 6 [(5, .int (nI v)), (4, .int (nI t)), (0, .ref m0), (1, .int 0), (2, .int (nI a)), (3, .int (nI b))] → W p l e ({ frames := 1, cells := 0, slots := 0, locals := 60 } : Room) s m [.ref m0, .int 0, .int (nI a), .int (nI b)].toArray below meth c s.heap [] 0 0 (MQ below (vp_Si (fun (r : Int32) => ∃ (t' : Nat), r = nI t' ∧ t' + fb_sm cf a = fb_sm cf (b + 1) ∧ True)) [.ref m0, .int 0, .int (nI a), .int (nI b)].toArray s 0 0 (fun _ => False)) (F0 m 10 ls []) := by
    intro n9
    induction n9 with
    | zero =>
      intro v t hn9
      exact absurd hn9 (Nat.not_lt_zero _)
    | succ n9 ih10 =>
      intro v t hn9 hk_v hav hvb ht ls hl
      refine lv_iload hx hb dX9_within_10 (lv_at hl 0 rfl) ?_
      refine lv_iload_n hx hb dX9_within_12 rfl (lv_at hl 5 rfl) ?_
      refine lv_sipush (v := 255) hx hb dX9_within_13 (by decide +kernel) ?_
      refine va_mmin hx hb (hml.trans hl.1.symm) hown (hts (.methodLink RX9 186 Lib.Math.min.name) (by decide +kernel)) (hts (.static Lib.Math.min.name) (by decide +kernel)) (hts (.initialized "java/lang/Math") (by decide +kernel)) (hts (.code Lib.Math.min.name Lib.Math.min.code 2 (some .int)) (by decide +kernel)) (Nat.le_of_ble_eq_true rfl) (Nat.le_of_ble_eq_true rfl) (Nat.le_of_ble_eq_true rfl) (Nat.le_of_ble_eq_true rfl) dX9_within_16 ?_
      refine lv_topi (fun z_3 ez_3 => ?_)
      have tz_3 := my_minI (a := ((b : Nat) : Int)) (b := (255 : Int)) ez_3 (nI_toInt (by omega)) (by decide +kernel)
      refine lv_icmp_gt (tgt := 40) hx hb dX9_within_19 (by decide) (fun c19 => ?_) (fun c19 => ?_)
      ·
        have d19 : ((v : Nat) : Int) > z_3.toInt := my_gt c19 (nI_toInt (by omega)) rfl
        refine lv_iload hx hb dX9_within_40 (lv_at hl 1 rfl) ?_
        exact my_rpI hx hb hr hlocks (⟨t, rfl, (by rw [show b + 1 = v from (by omega)]; exact ht), (by first | assumption | omega | trivial | decide +kernel)⟩) dX9_within_42
      ·
        have d19 : ((v : Nat) : Int) ≤ z_3.toInt := my_ngt c19 (nI_toInt (by omega)) rfl
        refine lv_iload hx hb dX9_within_22 (lv_at hl 1 rfl) ?_
        refine lv_aload_n hx hb dX9_within_24 rfl (lv_at hl 2 rfl) ?_
        refine lv_iload_n hx hb dX9_within_25 rfl (lv_at hl 3 rfl) ?_
        refine lv_iload hx hb dX9_within_26 (lv_at hl 0 rfl) ?_
        refine my_gpI (my_pV (As := [.int 0, .int (nI v)]) (rest := [.int (nI t)]) (ci := 9) ⟨hx, hb, hml, hown, hts⟩ (cwV 2 hts gX9_within_X9_times rfl rfl rfl (by decide +kernel) ⟨Nat.le_of_ble_eq_true rfl, Nat.le_of_ble_eq_true rfl⟩) hN hK hP [0, 1] rfl 0 rfl rfl rfl rfl hl.1 rfl (Nat.le_of_ble_eq_true rfl) dX9_within_28 ⟨Nat.le_of_ble_eq_true rfl, Nat.le_of_ble_eq_true rfl⟩  (kt_X9_times l D cI cJ cK m0 a_row a_tape a_number a_read a_readBits a_stands a_parted a_bitsWere a_stood a_chosen a_bestChosen a_often a_sorted a_risen a_risenWays m_thrown m_told m_taped m_at m_to m_many m_readMany m_fewest m_size mf v cf (by first | assumption | omega | decide +kernel) (by first | assumption | omega | decide +kernel) (by first | assumption | omega | decide +kernel) (by first | assumption | omega | decide +kernel) (by first | assumption | omega | decide +kernel) (by first | assumption | omega | decide +kernel) (by first | assumption | omega | decide +kernel) (by first | assumption | omega | decide +kernel) (hcf) (hc64 _))) (fun r hp => ?_)
        obtain ⟨t_4, rfl, htm, hq_5⟩ := hp
        refine lv_iadd hx hb dX9_within_31 ?_
        refine my_eqi (y := nI (t + t_4)) (nI_add _ _) ?_
        refine lv_istore (lv' := [(4, .int (nI (t + t_4))), (5, .int (nI v)), (0, .ref m0), (1, .int 0), (2, .int (nI a)), (3, .int (nI b))]) hx hb dX9_within_32 hl (by decide) rfl (fun ls hl => ?_)
        refine lv_iinc (v := nI (v + 1)) (lv' := [(5, .int (nI (v + 1))), (4, .int (nI (t + t_4))), (0, .ref m0), (1, .int 0), (2, .int (nI a)), (3, .int (nI b))]) hx hb dX9_within_34 hl (k := 1) rfl (my_incN v 1 (by decide +kernel)) (by decide) rfl (fun ls hl => ?_)
        refine lv_goto (tgt := 10) hx hb dX9_within_37 (by decide) ?_
        exact ih10  (v + 1) (t + t_4) (by omega) (by first | assumption | omega | decide +kernel) (by first | assumption | omega | decide +kernel) (by first | assumption | omega | decide +kernel) (by rw [fb_sm_succ]; omega) ls (lv_sub hl [0, 1, 2, 3, 4, 5] rfl)
  exact loop10 ((256 - w_2) + 1) w_2 0 (Nat.lt_succ_self _) (by first | assumption | omega | decide +kernel) (by first | assumption | omega | decide +kernel) (by first | assumption | omega | decide +kernel) (by rw [show w_2 = a from (by omega)]; exact Nat.zero_add _) ls (lv_sub hl [0, 1, 2, 3, 4, 5] rfl)
set_option maxHeartbeats 4000000 in
set_option maxRecDepth 100000 in
theorem kv_X9_within (l : Launch) (D : va_G) (cI cJ cK : ClassId) (m0 : Nat) (a_row : Nat) (a_tape : Nat) (a_number : Nat) (a_read : Nat) (a_readBits : Nat) (a_stands : Nat) (a_parted : Nat) (a_bitsWere : Nat) (a_stood : Nat) (a_chosen : Nat) (a_bestChosen : Nat) (a_often : Nat) (a_sorted : Nat) (a_risen : Nat) (a_risenWays : Nat) (m_thrown : Int32) (m_told : Nat) (m_taped : Nat) (m_at : Nat) (m_to : Nat) (m_many : Nat) (m_readMany : Nat) (m_fewest : Int32) (m_size : Nat) (mf : Nat → Int32) (a : Nat) (b : Nat) (cf : Nat → Nat) (hz_m_told : m_told ≤ 64) (hz_m_taped : m_taped ≤ 100) (hz_m_at : m_at ≤ 100) (hz_m_to : m_to ≤ 100) (hz_m_many : m_many ≤ 64) (hz_m_readMany : m_readMany ≤ 64) (hz_m_size : m_size ≤ 64) (hab : a ≤ b) (ha9 : a ≤ 255) (hb9 : b ≤ 510) (hcf : ∀ v, v < 256 → mf v = nI (cf v)) (hc64 : ∀ v, cf v ≤ 64) (hs64 : fb_sm cf 256 ≤ 64) : cpI l yX9_within wsX9_within ({ frames := 1, cells := 0, slots := 0, locals := 60 } : Room) D (tyIJ cI cJ cK) [.ref m0, .int 0, .int (nI a), .int (nI b)] [(m0, .inr (9, [.int m_thrown, .int (nI m_told), .ref a_row, .ref a_tape, .int (nI m_taped), .int (nI m_at), .int (nI m_to), .int (nI m_many), .ref a_number, .ref a_read, .int (nI m_readMany), .ref a_readBits, .ref a_stands, .ref a_parted, .ref a_bitsWere, .ref a_stood, .ref a_chosen, .ref a_bestChosen, .int m_fewest, .ref a_often, .ref a_sorted, .int (nI m_size), .ref a_risen, .ref a_risenWays])), (a_often, .inl (cI, 512, .inl mf))] (fun (r : Int32) => ∃ (t' : Nat), r = nI t' ∧ t' + fb_sm cf a = fb_sm cf (min b 255 + 1) ∧ t' ≤ 64) := by
  refine cpI.of (cc := cX9_within) (maxL := 6) (ret := (some .int)) (by decide) rfl (Nat.le_of_ble_eq_true rfl) ?_
  intro p e s m below meth c ls hx hb hr hts hown hml hlocks hname hK hN hP hl
  have hl : lv_has ls 6 [(0, .ref m0), (1, .int 0), (2, .int (nI a)), (3, .int (nI b))] := hl
  have hown : s.vm.findClass RX9 = some m.cls := hown
  refine lv_iconst (v := 0) hx hb dX9_within_0 (by decide +kernel) ?_
  refine lv_istore (lv' := [(4, .int 0), (0, .ref m0), (1, .int 0), (2, .int (nI a)), (3, .int (nI b))]) hx hb dX9_within_1 hl (by decide) rfl (fun ls hl => ?_)
  refine lv_iconst (v := 0) hx hb dX9_within_3 (by decide +kernel) ?_
  refine lv_iload_n hx hb dX9_within_4 rfl (lv_at hl 3 rfl) ?_
  refine va_mmax hx hb (hml.trans hl.1.symm) hown (hts (.methodLink RX9 181 Lib.Math.max.name) (by decide +kernel)) (hts (.static Lib.Math.max.name) (by decide +kernel)) (hts (.initialized "java/lang/Math") (by decide +kernel)) (hts (.code Lib.Math.max.name Lib.Math.max.code 2 (some .int)) (by decide +kernel)) (Nat.le_of_ble_eq_true rfl) (Nat.le_of_ble_eq_true rfl) (Nat.le_of_ble_eq_true rfl) (Nat.le_of_ble_eq_true rfl) dX9_within_5 ?_
  refine lv_topi (fun z_1 ez_1 => ?_)
  have tz_1 := my_maxI (a := (0 : Int)) (b := ((a : Nat) : Int)) ez_1 (by decide +kernel) (nI_toInt (by omega))
  obtain ⟨w_2, ew_2, hw_2⟩ : ∃ w : Nat, z_1 = nI w ∧ (w : Int) = (z_1 : Int32).toInt := my_natE (by omega)
  refine my_eqi (y := nI w_2) ew_2 ?_
  refine lv_istore (lv' := [(5, .int (nI w_2)), (4, .int 0), (0, .ref m0), (1, .int 0), (2, .int (nI a)), (3, .int (nI b))]) hx hb dX9_within_8 hl (by decide) rfl (fun ls hl => ?_)
  have loop10 : ∀ (n9 : Nat) (v : Nat) (t : Nat), 256 - v < n9 → (v ≤ 256) → (a ≤ v) → (v ≤ min b 255 + 1) → (t + fb_sm cf a = fb_sm cf v) → ∀ (ls : Array Slot), lv_has ls 6 [(5, .int (nI v)), (4, .int (nI t)), (0, .ref m0), (1, .int 0), (2, .int (nI a)), (3, .int (nI b))] → W p l e ({ frames := 1, cells := 0, slots := 0, locals := 60 } : Room) s m [.ref m0, .int 0, .int (nI a), .int (nI b)].toArray below meth c s.heap [] 0 0 (MQ below (vp_Si (fun (r : Int32) => ∃ (t' : Nat), r = nI t' ∧ t' + fb_sm cf a = fb_sm cf (min b 255 + 1) ∧ t' ≤ 64)) [.ref m0, .int 0, .int (nI a), .int (nI b)].toArray s 0 0 (fun _ => False)) (F0 m 10 ls []) := by
    intro n9
    induction n9 with
    | zero =>
      intro v t hn9
      exact absurd hn9 (Nat.not_lt_zero _)
    | succ n9 ih10 =>
      intro v t hn9 hk_v hav hvb ht ls hl
      refine lv_iload hx hb dX9_within_10 (lv_at hl 0 rfl) ?_
      refine lv_iload_n hx hb dX9_within_12 rfl (lv_at hl 5 rfl) ?_
      refine lv_sipush (v := 255) hx hb dX9_within_13 (by decide +kernel) ?_
      refine va_mmin hx hb (hml.trans hl.1.symm) hown (hts (.methodLink RX9 186 Lib.Math.min.name) (by decide +kernel)) (hts (.static Lib.Math.min.name) (by decide +kernel)) (hts (.initialized "java/lang/Math") (by decide +kernel)) (hts (.code Lib.Math.min.name Lib.Math.min.code 2 (some .int)) (by decide +kernel)) (Nat.le_of_ble_eq_true rfl) (Nat.le_of_ble_eq_true rfl) (Nat.le_of_ble_eq_true rfl) (Nat.le_of_ble_eq_true rfl) dX9_within_16 ?_
      refine lv_topi (fun z_3 ez_3 => ?_)
      have tz_3 := my_minI (a := ((b : Nat) : Int)) (b := (255 : Int)) ez_3 (nI_toInt (by omega)) (by decide +kernel)
      refine lv_icmp_gt (tgt := 40) hx hb dX9_within_19 (by decide) (fun c19 => ?_) (fun c19 => ?_)
      ·
        have d19 : ((v : Nat) : Int) > z_3.toInt := my_gt c19 (nI_toInt (by omega)) rfl
        have hm6 := sm_mono cf (show v ≤ 256 by omega)
        refine lv_iload hx hb dX9_within_40 (lv_at hl 1 rfl) ?_
        exact my_rpI hx hb hr hlocks (⟨t, rfl, (by rw [show min b 255 + 1 = v from (by omega)]; exact ht), (by first | assumption | omega | trivial | decide +kernel)⟩) dX9_within_42
      ·
        have d19 : ((v : Nat) : Int) ≤ z_3.toInt := my_ngt c19 (nI_toInt (by omega)) rfl
        refine lv_iload hx hb dX9_within_22 (lv_at hl 1 rfl) ?_
        refine lv_aload_n hx hb dX9_within_24 rfl (lv_at hl 2 rfl) ?_
        refine lv_iload_n hx hb dX9_within_25 rfl (lv_at hl 3 rfl) ?_
        refine lv_iload hx hb dX9_within_26 (lv_at hl 0 rfl) ?_
        refine my_gpI (my_pV (As := [.int 0, .int (nI v)]) (rest := [.int (nI t)]) (ci := 9) ⟨hx, hb, hml, hown, hts⟩ (cwV 2 hts gX9_within_X9_times rfl rfl rfl (by decide +kernel) ⟨Nat.le_of_ble_eq_true rfl, Nat.le_of_ble_eq_true rfl⟩) hN hK hP [0, 1] rfl 0 rfl rfl rfl rfl hl.1 rfl (Nat.le_of_ble_eq_true rfl) dX9_within_28 ⟨Nat.le_of_ble_eq_true rfl, Nat.le_of_ble_eq_true rfl⟩  (kt_X9_times l D cI cJ cK m0 a_row a_tape a_number a_read a_readBits a_stands a_parted a_bitsWere a_stood a_chosen a_bestChosen a_often a_sorted a_risen a_risenWays m_thrown m_told m_taped m_at m_to m_many m_readMany m_fewest m_size mf v cf (by first | assumption | omega | decide +kernel) (by first | assumption | omega | decide +kernel) (by first | assumption | omega | decide +kernel) (by first | assumption | omega | decide +kernel) (by first | assumption | omega | decide +kernel) (by first | assumption | omega | decide +kernel) (by first | assumption | omega | decide +kernel) (by first | assumption | omega | decide +kernel) (hcf) (hc64 _))) (fun r hp => ?_)
        obtain ⟨t_4, rfl, htm, hq_5⟩ := hp
        refine lv_iadd hx hb dX9_within_31 ?_
        refine my_eqi (y := nI (t + t_4)) (nI_add _ _) ?_
        refine lv_istore (lv' := [(4, .int (nI (t + t_4))), (5, .int (nI v)), (0, .ref m0), (1, .int 0), (2, .int (nI a)), (3, .int (nI b))]) hx hb dX9_within_32 hl (by decide) rfl (fun ls hl => ?_)
        refine lv_iinc (v := nI (v + 1)) (lv' := [(5, .int (nI (v + 1))), (4, .int (nI (t + t_4))), (0, .ref m0), (1, .int 0), (2, .int (nI a)), (3, .int (nI b))]) hx hb dX9_within_34 hl (k := 1) rfl (my_incN v 1 (by decide +kernel)) (by decide) rfl (fun ls hl => ?_)
        refine lv_goto (tgt := 10) hx hb dX9_within_37 (by decide) ?_
        exact ih10  (v + 1) (t + t_4) (by omega) (by first | assumption | omega | decide +kernel) (by first | assumption | omega | decide +kernel) (by first | assumption | omega | decide +kernel) (by rw [fb_sm_succ]; omega) ls (lv_sub hl [0, 1, 2, 3, 4, 5] rfl)
  exact loop10 ((256 - w_2) + 1) w_2 0 (Nat.lt_succ_self _) (by first | assumption | omega | decide +kernel) (by first | assumption | omega | decide +kernel) (by first | assumption | omega | decide +kernel) (by rw [show w_2 = a from (by omega)]; exact Nat.zero_add _) ls (lv_sub hl [0, 1, 2, 3, 4, 5] rfl)
set_option maxHeartbeats 4000000 in
set_option maxRecDepth 100000 in
theorem k0_X9_within (l : Launch) (D : va_G) (cI cJ cK : ClassId) (m0 : Nat) (a_row : Nat) (a_tape : Nat) (a_number : Nat) (a_read : Nat) (a_readBits : Nat) (a_stands : Nat) (a_parted : Nat) (a_bitsWere : Nat) (a_stood : Nat) (a_chosen : Nat) (a_bestChosen : Nat) (a_often : Nat) (a_sorted : Nat) (a_risen : Nat) (a_risenWays : Nat) (m_thrown : Int32) (m_told : Nat) (m_taped : Nat) (m_at : Nat) (m_to : Nat) (m_many : Nat) (m_readMany : Nat) (m_fewest : Int32) (m_size : Nat) (mf : Nat → Int32) (a9 : Int32) (A_a9 : Int) (hA_a9 : a9.toInt = A_a9) (b9 : Int32) (A_b9 : Int) (hA_b9 : b9.toInt = A_b9) (hz_m_told : m_told ≤ 64) (hz_m_taped : m_taped ≤ 100) (hz_m_at : m_at ≤ 100) (hz_m_to : m_to ≤ 100) (hz_m_many : m_many ≤ 64) (hz_m_readMany : m_readMany ≤ 64) (hz_m_size : m_size ≤ 64) (ha : A_a9 ≤ 255) : cpI l yX9_within wsX9_within ({ frames := 1, cells := 0, slots := 0, locals := 60 } : Room) D (tyIJ cI cJ cK) [.ref m0, .int 0, .int a9, .int b9] [(m0, .inr (9, [.int m_thrown, .int (nI m_told), .ref a_row, .ref a_tape, .int (nI m_taped), .int (nI m_at), .int (nI m_to), .int (nI m_many), .ref a_number, .ref a_read, .int (nI m_readMany), .ref a_readBits, .ref a_stands, .ref a_parted, .ref a_bitsWere, .ref a_stood, .ref a_chosen, .ref a_bestChosen, .int m_fewest, .ref a_often, .ref a_sorted, .int (nI m_size), .ref a_risen, .ref a_risenWays])), (a_often, .inl (cI, 512, .inl mf))] (fun (r : Int32) => True) := by
  refine cpI.of (cc := cX9_within) (maxL := 6) (ret := (some .int)) (by decide) rfl (Nat.le_of_ble_eq_true rfl) ?_
  intro p e s m below meth c ls hx hb hr hts hown hml hlocks hname hK hN hP hl
  have hl : lv_has ls 6 [(0, .ref m0), (1, .int 0), (2, .int a9), (3, .int b9)] := hl
  have hown : s.vm.findClass RX9 = some m.cls := hown
  refine lv_iconst (v := 0) hx hb dX9_within_0 (by decide +kernel) ?_
  refine lv_istore (lv' := [(4, .int 0), (0, .ref m0), (1, .int 0), (2, .int a9), (3, .int b9)]) hx hb dX9_within_1 hl (by decide) rfl (fun ls hl => ?_)
  refine lv_iconst (v := 0) hx hb dX9_within_3 (by decide +kernel) ?_
  refine lv_iload_n hx hb dX9_within_4 rfl (lv_at hl 3 rfl) ?_
  refine va_mmax hx hb (hml.trans hl.1.symm) hown (hts (.methodLink RX9 181 Lib.Math.max.name) (by decide +kernel)) (hts (.static Lib.Math.max.name) (by decide +kernel)) (hts (.initialized "java/lang/Math") (by decide +kernel)) (hts (.code Lib.Math.max.name Lib.Math.max.code 2 (some .int)) (by decide +kernel)) (Nat.le_of_ble_eq_true rfl) (Nat.le_of_ble_eq_true rfl) (Nat.le_of_ble_eq_true rfl) (Nat.le_of_ble_eq_true rfl) dX9_within_5 ?_
  refine lv_topi (fun z_1 ez_1 => ?_)
  have tz_1 := my_maxI (a := (0 : Int)) (b := a9.toInt) ez_1 (by decide +kernel) rfl
  refine lv_istore (lv' := [(5, .int z_1), (4, .int 0), (0, .ref m0), (1, .int 0), (2, .int a9), (3, .int b9)]) hx hb dX9_within_8 hl (by decide) rfl (fun ls hl => ?_)
  have loop10 : ∀ (n9 : Nat) (x : Int32) (y4_10 : Int32), (256 - x.toInt).toNat < n9 → (0 ≤ x.toInt) → (x.toInt ≤ 256) → ∀ (ls : Array Slot), lv_has ls 6 [(5, .int x), (4, .int y4_10), (0, .ref m0), (1, .int 0), (2, .int a9), (3, .int b9)] → W p l e ({ frames := 1, cells := 0, slots := 0, locals := 60 } : Room) s m [.ref m0, .int 0, .int a9, .int b9].toArray below meth c s.heap [] 0 0 (MQ below (vp_Si (fun (r : Int32) => True)) [.ref m0, .int 0, .int a9, .int b9].toArray s 0 0 (fun _ => False)) (F0 m 10 ls []) := by
    intro n9
    induction n9 with
    | zero =>
      intro x y4_10 hn9
      exact absurd hn9 (Nat.not_lt_zero _)
    | succ n9 ih10 =>
      intro x y4_10 hn9 hx0 hx1 ls hl
      refine lv_iload hx hb dX9_within_10 (lv_at hl 0 rfl) ?_
      refine lv_iload_n hx hb dX9_within_12 rfl (lv_at hl 5 rfl) ?_
      refine lv_sipush (v := 255) hx hb dX9_within_13 (by decide +kernel) ?_
      refine va_mmin hx hb (hml.trans hl.1.symm) hown (hts (.methodLink RX9 186 Lib.Math.min.name) (by decide +kernel)) (hts (.static Lib.Math.min.name) (by decide +kernel)) (hts (.initialized "java/lang/Math") (by decide +kernel)) (hts (.code Lib.Math.min.name Lib.Math.min.code 2 (some .int)) (by decide +kernel)) (Nat.le_of_ble_eq_true rfl) (Nat.le_of_ble_eq_true rfl) (Nat.le_of_ble_eq_true rfl) (Nat.le_of_ble_eq_true rfl) dX9_within_16 ?_
      refine lv_topi (fun z_2 ez_2 => ?_)
      have tz_2 := my_minI (a := b9.toInt) (b := (255 : Int)) ez_2 rfl (by decide +kernel)
      refine lv_icmp_gt (tgt := 40) hx hb dX9_within_19 (by decide) (fun c19 => ?_) (fun c19 => ?_)
      ·
        have d19 : x.toInt > z_2.toInt := my_gt c19 rfl rfl
        refine lv_iload hx hb dX9_within_40 (lv_at hl 1 rfl) ?_
        exact my_rpI hx hb hr hlocks (trivial) dX9_within_42
      ·
        have d19 : x.toInt ≤ z_2.toInt := my_ngt c19 rfl rfl
        refine lv_iload hx hb dX9_within_22 (lv_at hl 1 rfl) ?_
        refine lv_aload_n hx hb dX9_within_24 rfl (lv_at hl 2 rfl) ?_
        refine lv_iload_n hx hb dX9_within_25 rfl (lv_at hl 3 rfl) ?_
        refine lv_iload hx hb dX9_within_26 (lv_at hl 0 rfl) ?_
        obtain ⟨w_3, ew_3, hw_3⟩ : ∃ w : Nat, x = nI w ∧ (w : Int) = (x : Int32).toInt := my_natE (by omega)
        refine my_eqi (y := nI w_3) ew_3 ?_
        refine my_gpI (my_pV (As := [.int 0, .int (nI w_3)]) (rest := [.int y4_10]) (ci := 9) ⟨hx, hb, hml, hown, hts⟩ (cwV 2 hts gX9_within_X9_times rfl rfl rfl (by decide +kernel) ⟨Nat.le_of_ble_eq_true rfl, Nat.le_of_ble_eq_true rfl⟩) hN hK hP [0, 1] rfl 0 rfl rfl rfl rfl hl.1 rfl (Nat.le_of_ble_eq_true rfl) dX9_within_28 ⟨Nat.le_of_ble_eq_true rfl, Nat.le_of_ble_eq_true rfl⟩  (k0_X9_times l D cI cJ cK m0 a_row a_tape a_number a_read a_readBits a_stands a_parted a_bitsWere a_stood a_chosen a_bestChosen a_often a_sorted a_risen a_risenWays m_thrown m_told m_taped m_at m_to m_many m_readMany m_fewest m_size mf w_3 (by first | assumption | omega | decide +kernel) (by first | assumption | omega | decide +kernel) (by first | assumption | omega | decide +kernel) (by first | assumption | omega | decide +kernel) (by first | assumption | omega | decide +kernel) (by first | assumption | omega | decide +kernel) (by first | assumption | omega | decide +kernel) (by first | assumption | omega | decide +kernel))) (fun r hp => ?_)
        obtain rfl := hp
        refine lv_iadd hx hb dX9_within_31 ?_
        refine lv_topi (fun z_4 ez_4 => ?_)
        try have tz_4 : z_4.toInt = y4_10.toInt + (mf w_3).toInt := by rw [ez_4]; exact my_addI rfl rfl (by omega) (by omega)
        refine lv_istore (lv' := [(4, .int z_4), (5, .int x), (0, .ref m0), (1, .int 0), (2, .int a9), (3, .int b9)]) hx hb dX9_within_32 hl (by decide) rfl (fun ls hl => ?_)
        obtain ⟨z_5, ez_5⟩ : ∃ y : Int32, y = x + (1) := ⟨_, rfl⟩
        try have tz_5 : z_5.toInt = x.toInt + (1) := by rw [ez_5]; exact my_addI rfl (by decide +kernel) (by omega) (by omega)
        refine lv_iinc (v := z_5) (lv' := [(5, .int z_5), (4, .int z_4), (0, .ref m0), (1, .int 0), (2, .int a9), (3, .int b9)]) hx hb dX9_within_34 hl (k := 1) rfl (by rw [ez_5]; rfl) (by decide) rfl (fun ls hl => ?_)
        refine lv_goto (tgt := 10) hx hb dX9_within_37 (by decide) ?_
        exact ih10  z_5 z_4 (by omega) (by first | assumption | omega | decide +kernel) (by first | assumption | omega | decide +kernel) ls (lv_sub hl [0, 1, 2, 3, 4, 5] rfl)
  have ec_6 : (0 : Int32).toInt = 0 := by decide +kernel
  exact loop10 (((256 - z_1.toInt).toNat) + 1) z_1 (0 : Int32) (Nat.lt_succ_self _) (by first | assumption | omega | decide +kernel) (by first | assumption | omega | decide +kernel) ls (lv_sub hl [0, 1, 2, 3, 4, 5] rfl)
abbrev wl_k1_X9_counts (cI cJ cK : ClassId) (m0 : Nat) (a_row : Nat) (a_tape : Nat) (a_number : Nat) (a_read : Nat) (a_readBits : Nat) (a_stands : Nat) (a_parted : Nat) (a_bitsWere : Nat) (a_stood : Nat) (a_chosen : Nat) (a_bestChosen : Nat) (a_often : Nat) (a_sorted : Nat) (a_risen : Nat) (a_risenWays : Nat) (v0_ : Int32) (v1_ : Int32) (v2_ : Int32) (v3_ : Int32) (v4_ : Int32) (v5_ : Int32) (v6_ : Int32) (v7_ : Int32) (v8_ : Int32) (v9_ : Nat → Int32) (v10_ : Nat → Int32) : va_W := [(m0, .inr (9, [.int v0_, .int v1_, .ref a_row, .ref a_tape, .int v2_, .int v3_, .int v4_, .int v5_, .ref a_number, .ref a_read, .int v6_, .ref a_readBits, .ref a_stands, .ref a_parted, .ref a_bitsWere, .ref a_stood, .ref a_chosen, .ref a_bestChosen, .int v7_, .ref a_often, .ref a_sorted, .int v8_, .ref a_risen, .ref a_risenWays])), (a_number, .inl (cI, 64, .inl v9_)), (a_often, .inl (cI, 512, .inl v10_))]
set_option maxHeartbeats 4000000 in
set_option maxRecDepth 100000 in
theorem k1_X9_counts (l : Launch) (D : va_G) (cI cJ cK : ClassId) (m0 : Nat) (a_row : Nat) (a_tape : Nat) (a_number : Nat) (a_read : Nat) (a_readBits : Nat) (a_stands : Nat) (a_parted : Nat) (a_bitsWere : Nat) (a_stood : Nat) (a_chosen : Nat) (a_bestChosen : Nat) (a_often : Nat) (a_sorted : Nat) (a_risen : Nat) (a_risenWays : Nat) (m_thrown : Int32) (m_told : Nat) (m_taped : Nat) (m_at : Nat) (m_to : Nat) (m_many : Nat) (m_readMany : Nat) (m_fewest : Int32) (m_size : Nat) (mn : Nat → Int32) (mf : Nat → Int32) (a : Nat) (b : Nat) (hz_m_told : m_told ≤ 64) (hz_m_taped : m_taped ≤ 100) (hz_m_at : m_at ≤ 100) (hz_m_to : m_to ≤ 100) (hz_m_many : m_many ≤ 64) (hz_m_readMany : m_readMany ≤ 64) (hz_m_size : m_size ≤ 64) (hR_mn : RB 0 255 mn) (hab : a ≤ b) (hb9 : b ≤ 64) : ctV l yX9_counts wsX9_counts ({ frames := 0, cells := 0, slots := 0, locals := 0 } : Room) D (tyIJ cI cJ cK) [.ref m0, .int 1, .int (nI a), .int (nI b)] (wl_k1_X9_counts cI cJ cK m0 a_row a_tape a_number a_read a_readBits a_stands a_parted a_bitsWere a_stood a_chosen a_bestChosen a_often a_sorted a_risen a_risenWays m_thrown (nI m_told) (nI m_taped) (nI m_at) (nI m_to) (nI m_many) (nI m_readMany) m_fewest (nI m_size) mn mf) (fun (u : va_W) => ∃ (mf' : Nat → Int32), u = (wl_k1_X9_counts cI cJ cK m0 a_row a_tape a_number a_read a_readBits a_stands a_parted a_bitsWere a_stood a_chosen a_bestChosen a_often a_sorted a_risen a_risenWays m_thrown (nI m_told) (nI m_taped) (nI m_at) (nI m_to) (nI m_many) (nI m_readMany) m_fewest (nI m_size) mn mf') ∧ (∀ v, v < 256 → mf' (v + 256) = nI (cn mn v a b)) ∧ (∀ j, j < 256 → mf' j = mf j)) := by
  refine ctV.of (cc := cX9_counts) (maxL := 5) (ret := none) (by decide) rfl (Nat.le_of_ble_eq_true rfl) ?_
  intro p e s m below meth c ls A hx hb hr hts hown hml hlocks hname hA hK hN hP hD hS hl
  have hl : lv_has ls 5 [(0, .ref m0), (1, .int 1), (2, .int (nI a)), (3, .int (nI b))] := hl
  have hown : s.vm.findClass RX9 = some m.cls := hown
  have hi9 : ∀ w ∈ u_ws RX9 TX9 24, w ∈ wsX9_counts := by decide +kernel
  have fl49 := hts (.fieldLink RX9 49 "PlaneColumnModel" "number" "[I") (by decide +kernel)
  have fl76 := hts (.fieldLink RX9 76 "PlaneColumnModel" "often" "[I") (by decide +kernel)
  refine lv_iconst (v := 0) hx hb dX9_counts_0 (by decide +kernel) ?_
  refine lv_istore (lv' := [(4, .int 0), (0, .ref m0), (1, .int 1), (2, .int (nI a)), (3, .int (nI b))]) hx hb dX9_counts_1 hl (by decide) rfl (fun ls hl => ?_)
  have loop3 : ∀ (n9 : Nat) (v3 : Nat) (a_often_3 : Nat → Int32), 256 - v3 < n9 → (v3 ≤ 256) → (∀ u, u < v3 → a_often_3 (u + 256) = 0) → (∀ j, j < 256 → a_often_3 j = mf j) → ∀ (H : Heap) (locs : List Loc) (ls : Array Slot), va_P D vwCl (wl_k1_X9_counts cI cJ cK m0 a_row a_tape a_number a_read a_readBits a_stands a_parted a_bitsWere a_stood a_chosen a_bestChosen a_often a_sorted a_risen a_risenWays m_thrown (nI m_told) (nI m_taped) (nI m_at) (nI m_to) (nI m_many) (nI m_readMany) m_fewest (nI m_size) mn a_often_3) H → va_D A (wl_k1_X9_counts cI cJ cK m0 a_row a_tape a_number a_read a_readBits a_stands a_parted a_bitsWere a_stood a_chosen a_bestChosen a_often a_sorted a_risen a_risenWays m_thrown (nI m_told) (nI m_taped) (nI m_at) (nI m_to) (nI m_many) (nI m_readMany) m_fewest (nI m_size) mn a_often_3) → va_S A s.heap H locs → lv_has ls 5 [(4, .int (nI v3)), (0, .ref m0), (1, .int 1), (2, .int (nI a)), (3, .int (nI b))] → W p l e ({ frames := 0, cells := 0, slots := 0, locals := 0 } : Room) s m [.ref m0, .int 1, .int (nI a), .int (nI b)].toArray below meth c H locs 0 0 (MQ below (va_Qv (fun (u : va_W) => ∃ (mf' : Nat → Int32), u = (wl_k1_X9_counts cI cJ cK m0 a_row a_tape a_number a_read a_readBits a_stands a_parted a_bitsWere a_stood a_chosen a_bestChosen a_often a_sorted a_risen a_risenWays m_thrown (nI m_told) (nI m_taped) (nI m_at) (nI m_to) (nI m_many) (nI m_readMany) m_fewest (nI m_size) mn mf') ∧ (∀ v, v < 256 → mf' (v + 256) = nI (cn mn v a b)) ∧ (∀ j, j < 256 → mf' j = mf j)) (my_B D (tyIJ cI cJ cK) A) A) [.ref m0, .int 1, .int (nI a), .int (nI b)].toArray s 0 0 A) (F0 m 3 ls []) := by
    intro n9
    induction n9 with
    | zero =>
      intro v3 a_often_3 hn9
      exact absurd hn9 (Nat.not_lt_zero _)
    | succ n9 ih3 =>
      intro v3 a_often_3 hn9 hk_v3 hz hoz H locs ls hP hD hS hl
      refine lv_iload hx hb dX9_counts_3 (lv_at hl 0 rfl) ?_
      refine lv_sipush (v := 256) hx hb dX9_counts_5 (by decide +kernel) ?_
      refine lv_icmp_ge (tgt := 31) hx hb dX9_counts_8 (by decide) (fun c8 => ?_) (fun c8 => ?_)
      ·
        have d8 : ((v3 : Nat) : Int) ≥ (256 : Int) := my_ge c8 (nI_toInt (by omega)) (by decide +kernel)
        refine lv_iload_n hx hb dX9_counts_31 rfl (lv_at hl 3 rfl) ?_
        refine lv_istore (lv' := [(4, .int (nI a)), (0, .ref m0), (1, .int 1), (2, .int (nI a)), (3, .int (nI b))]) hx hb dX9_counts_32 hl (by decide) rfl (fun ls hl => ?_)
        have loop34 : ∀ (n9 : Nat) (k : Nat) (a_often_34 : Nat → Int32), b - k < n9 → (k ≤ b) → (a ≤ k) → (∀ v, v < 256 → a_often_34 (v + 256) = nI (cn mn v a k)) → (∀ j, j < 256 → a_often_34 j = mf j) → ∀ (H : Heap) (locs : List Loc) (ls : Array Slot), va_P D vwCl (wl_k1_X9_counts cI cJ cK m0 a_row a_tape a_number a_read a_readBits a_stands a_parted a_bitsWere a_stood a_chosen a_bestChosen a_often a_sorted a_risen a_risenWays m_thrown (nI m_told) (nI m_taped) (nI m_at) (nI m_to) (nI m_many) (nI m_readMany) m_fewest (nI m_size) mn a_often_34) H → va_D A (wl_k1_X9_counts cI cJ cK m0 a_row a_tape a_number a_read a_readBits a_stands a_parted a_bitsWere a_stood a_chosen a_bestChosen a_often a_sorted a_risen a_risenWays m_thrown (nI m_told) (nI m_taped) (nI m_at) (nI m_to) (nI m_many) (nI m_readMany) m_fewest (nI m_size) mn a_often_34) → va_S A s.heap H locs → lv_has ls 5 [(4, .int (nI k)), (0, .ref m0), (1, .int 1), (2, .int (nI a)), (3, .int (nI b))] → W p l e ({ frames := 0, cells := 0, slots := 0, locals := 0 } : Room) s m [.ref m0, .int 1, .int (nI a), .int (nI b)].toArray below meth c H locs 0 0 (MQ below (va_Qv (fun (u : va_W) => ∃ (mf' : Nat → Int32), u = (wl_k1_X9_counts cI cJ cK m0 a_row a_tape a_number a_read a_readBits a_stands a_parted a_bitsWere a_stood a_chosen a_bestChosen a_often a_sorted a_risen a_risenWays m_thrown (nI m_told) (nI m_taped) (nI m_at) (nI m_to) (nI m_many) (nI m_readMany) m_fewest (nI m_size) mn mf') ∧ (∀ v, v < 256 → mf' (v + 256) = nI (cn mn v a b)) ∧ (∀ j, j < 256 → mf' j = mf j)) (my_B D (tyIJ cI cJ cK) A) A) [.ref m0, .int 1, .int (nI a), .int (nI b)].toArray s 0 0 A) (F0 m 34 ls []) := by
          intro n9
          induction n9 with
          | zero =>
            intro k a_often_34 hn9
            exact absurd hn9 (Nat.not_lt_zero _)
          | succ n9 ih34 =>
            intro k a_often_34 hn9 hk_k hak hc hoc H locs ls hP hD hS hl
            refine lv_iload hx hb dX9_counts_34 (lv_at hl 0 rfl) ?_
            refine lv_iload_n hx hb dX9_counts_36 rfl (lv_at hl 4 rfl) ?_
            refine lv_icmp_ge (tgt := 68) hx hb dX9_counts_37 (by decide) (fun c37 => ?_) (fun c37 => ?_)
            ·
              have d37 : ((k : Nat) : Int) ≥ ((b : Nat) : Int) := my_ge c37 (nI_toInt (by omega)) (nI_toInt (by omega))
              exact my_retV hx hb hr hlocks hK hS (wl_k1_X9_counts cI cJ cK m0 a_row a_tape a_number a_read a_readBits a_stands a_parted a_bitsWere a_stood a_chosen a_bestChosen a_often a_sorted a_risen a_risenWays m_thrown (nI m_told) (nI m_taped) (nI m_at) (nI m_to) (nI m_many) (nI m_readMany) m_fewest (nI m_size) mn a_often_34) hP hD (⟨a_often_34, rfl, (by have e9 : k = b := (by omega); subst e9; exact hc), hoc⟩) dX9_counts_68
            ·
              have d37 : ((k : Nat) : Int) < ((b : Nat) : Int) := my_nge c37 (nI_toInt (by omega)) (nI_toInt (by omega))
              refine lv_aload_n hx hb dX9_counts_40 rfl (lv_at hl 1 rfl) ?_
              refine va_get (ci := 9) (v := .ref a_often) (C := RX9) (T := TX9) (N := 24) hx hb hts hi9 hown hK hP 0 rfl rfl 19 (by decide) fl76 (fun _ h9 => h9) rfl dX9_counts_41 ?_
              refine lv_sipush (v := 256) hx hb dX9_counts_44 (by decide +kernel) ?_
              refine lv_iload_n hx hb dX9_counts_47 rfl (lv_at hl 2 rfl) ?_
              refine lv_imul hx hb dX9_counts_48 ?_
              refine my_eqi (y := 256) (by decide +kernel) ?_
              refine lv_aload_n hx hb dX9_counts_49 rfl (lv_at hl 1 rfl) ?_
              refine va_get (ci := 9) (v := .ref a_number) (C := RX9) (T := TX9) (N := 24) hx hb hts hi9 hown hK hP 0 rfl rfl 8 (by decide) fl49 (fun _ h9 => h9) rfl dX9_counts_50 ?_
              refine lv_iload hx hb dX9_counts_53 (lv_at hl 0 rfl) ?_
              refine va_iald hx hb hK hP 1 0 rfl rfl (vp_in_nI (by omega) (by omega)) dX9_counts_55 ?_
              refine my_eqi (y := mn k) (congrArg mn (nI_clamp (by omega))) ?_
              have hb_1 := hR_mn k
              obtain ⟨w_2, ew_2, hw_2⟩ : ∃ w : Nat, (mn k) = nI w ∧ (w : Int) = (mn k : Int32).toInt := my_natE (by omega)
              refine my_eqi (y := nI w_2) ew_2 ?_
              refine lv_iadd hx hb dX9_counts_56 ?_
              refine my_eqi (y := nI (w_2 + 256)) (my_addN2 w_2 256) ?_
              refine lv_dup2_11 hx hb dX9_counts_57 rfl rfl ?_
              refine va_iald hx hb hK hP 2 0 rfl rfl (vp_in_nI (by omega) (by omega)) dX9_counts_58 ?_
              refine my_eqi (y := a_often_34 (w_2 + 256)) (congrArg a_often_34 (nI_clamp (by omega))) ?_
              refine lv_iconst (v := 1) hx hb dX9_counts_59 (by decide +kernel) ?_
              refine lv_iadd hx hb dX9_counts_60 ?_
              refine lv_topi (fun z_4 ez_4 => ?_)
              try have tz_4 : z_4.toInt = (a_often_34 (w_2 + 256)).toInt + (1 : Int) := by rw [ez_4]; exact my_addI rfl (by decide +kernel) (by omega) (by omega)
              refine va_iast hx hb hK hP hD hS 2 0 rfl rfl (vp_in_nI (by omega) (by omega)) dX9_counts_61 (fun H locs hP hD hS => ?_)
              obtain ⟨g_5, eg_5⟩ : ∃ g : Nat → Int32, g = upd a_often_34 (w_2 + 256) z_4 := ⟨_, rfl⟩
              have eU : upd a_often_34 (nI (w_2 + 256) : Int32).toNatClampNeg z_4 = g_5 := by rw [eg_5, show (nI (w_2 + 256) : Int32).toNatClampNeg = w_2 + 256 from nI_clamp (by omega)]
              rw [eU] at hP hD
              have hP : va_P D vwCl (wl_k1_X9_counts cI cJ cK m0 a_row a_tape a_number a_read a_readBits a_stands a_parted a_bitsWere a_stood a_chosen a_bestChosen a_often a_sorted a_risen a_risenWays m_thrown (nI m_told) (nI m_taped) (nI m_at) (nI m_to) (nI m_many) (nI m_readMany) m_fewest (nI m_size) mn g_5) H := hP
              have hD : va_D A (wl_k1_X9_counts cI cJ cK m0 a_row a_tape a_number a_read a_readBits a_stands a_parted a_bitsWere a_stood a_chosen a_bestChosen a_often a_sorted a_risen a_risenWays m_thrown (nI m_told) (nI m_taped) (nI m_at) (nI m_to) (nI m_many) (nI m_readMany) m_fewest (nI m_size) mn g_5) := hD
              refine lv_iinc (v := nI (k + 1)) (lv' := [(4, .int (nI (k + 1))), (0, .ref m0), (1, .int 1), (2, .int (nI a)), (3, .int (nI b))]) hx hb dX9_counts_62 hl (k := 0) rfl (my_incN k 1 (by decide +kernel)) (by decide) rfl (fun ls hl => ?_)
              refine lv_goto (tgt := 34) hx hb dX9_counts_65 (by decide) ?_
              exact ih34  (k + 1) g_5 (by omega) (by first | assumption | omega | decide +kernel) (by first | assumption | omega | decide +kernel) (cn_step1 (by assumption) (by assumption) (by assumption) hc (by omega) (by omega) (by omega)) (up_lo (by assumption) hoc (by omega)) _ _ ls hP hD hS (lv_sub hl [0, 1, 2, 3, 4] rfl)
        exact loop34 ((b - a) + 1) a a_often_3 (Nat.lt_succ_self _) (by first | assumption | omega | decide +kernel) (by first | assumption | omega | decide +kernel) (fun v hv => by rw [cn_start (Nat.le_refl a)]; exact hz v (by omega)) (hoz) _ _ ls hP hD hS (lv_sub hl [0, 1, 2, 3, 4] rfl)
      ·
        have d8 : ((v3 : Nat) : Int) < (256 : Int) := my_nge c8 (nI_toInt (by omega)) (by decide +kernel)
        refine lv_aload_n hx hb dX9_counts_11 rfl (lv_at hl 1 rfl) ?_
        refine va_get (ci := 9) (v := .ref a_often) (C := RX9) (T := TX9) (N := 24) hx hb hts hi9 hown hK hP 0 rfl rfl 19 (by decide) fl76 (fun _ h9 => h9) rfl dX9_counts_12 ?_
        refine lv_sipush (v := 256) hx hb dX9_counts_15 (by decide +kernel) ?_
        refine lv_iload_n hx hb dX9_counts_18 rfl (lv_at hl 2 rfl) ?_
        refine lv_imul hx hb dX9_counts_19 ?_
        refine my_eqi (y := 256) (by decide +kernel) ?_
        refine lv_iload hx hb dX9_counts_20 (lv_at hl 0 rfl) ?_
        refine lv_iadd hx hb dX9_counts_22 ?_
        refine my_eqi (y := nI (v3 + 256)) (my_addN2 v3 256) ?_
        refine lv_iconst (v := 0) hx hb dX9_counts_23 (by decide +kernel) ?_
        refine va_iast hx hb hK hP hD hS 2 0 rfl rfl (vp_in_nI (by omega) (by omega)) dX9_counts_24 (fun H locs hP hD hS => ?_)
        obtain ⟨g_6, eg_6⟩ : ∃ g : Nat → Int32, g = upd a_often_3 (v3 + 256) 0 := ⟨_, rfl⟩
        have eU : upd a_often_3 (nI (v3 + 256) : Int32).toNatClampNeg 0 = g_6 := by rw [eg_6, show (nI (v3 + 256) : Int32).toNatClampNeg = v3 + 256 from nI_clamp (by omega)]
        rw [eU] at hP hD
        have hP : va_P D vwCl (wl_k1_X9_counts cI cJ cK m0 a_row a_tape a_number a_read a_readBits a_stands a_parted a_bitsWere a_stood a_chosen a_bestChosen a_often a_sorted a_risen a_risenWays m_thrown (nI m_told) (nI m_taped) (nI m_at) (nI m_to) (nI m_many) (nI m_readMany) m_fewest (nI m_size) mn g_6) H := hP
        have hD : va_D A (wl_k1_X9_counts cI cJ cK m0 a_row a_tape a_number a_read a_readBits a_stands a_parted a_bitsWere a_stood a_chosen a_bestChosen a_often a_sorted a_risen a_risenWays m_thrown (nI m_told) (nI m_taped) (nI m_at) (nI m_to) (nI m_many) (nI m_readMany) m_fewest (nI m_size) mn g_6) := hD
        refine lv_iinc (v := nI (v3 + 1)) (lv' := [(4, .int (nI (v3 + 1))), (0, .ref m0), (1, .int 1), (2, .int (nI a)), (3, .int (nI b))]) hx hb dX9_counts_25 hl (k := 0) rfl (my_incN v3 1 (by decide +kernel)) (by decide) rfl (fun ls hl => ?_)
        refine lv_goto (tgt := 3) hx hb dX9_counts_28 (by decide) ?_
        exact ih3  (v3 + 1) g_6 (by omega) (by first | assumption | omega | decide +kernel) (zr_step1 (by assumption) hz) (up_lo (by assumption) hoz (by omega)) _ _ ls hP hD hS (lv_sub hl [0, 1, 2, 3, 4] rfl)
  exact loop3 ((256 - 0) + 1) 0 mf (Nat.lt_succ_self _) (by first | assumption | omega | decide +kernel) (fun u h => absurd h (Nat.not_lt_zero u)) (fun j _ => rfl) _ _ ls hP hD hS (lv_sub hl [0, 1, 2, 3, 4] rfl)
set_option maxHeartbeats 4000000 in
set_option maxRecDepth 100000 in
theorem k1_X9_times (l : Launch) (D : va_G) (cI cJ cK : ClassId) (m0 : Nat) (a_row : Nat) (a_tape : Nat) (a_number : Nat) (a_read : Nat) (a_readBits : Nat) (a_stands : Nat) (a_parted : Nat) (a_bitsWere : Nat) (a_stood : Nat) (a_chosen : Nat) (a_bestChosen : Nat) (a_often : Nat) (a_sorted : Nat) (a_risen : Nat) (a_risenWays : Nat) (m_thrown : Int32) (m_told : Nat) (m_taped : Nat) (m_at : Nat) (m_to : Nat) (m_many : Nat) (m_readMany : Nat) (m_fewest : Int32) (m_size : Nat) (mf : Nat → Int32) (v : Nat) (hz_m_told : m_told ≤ 64) (hz_m_taped : m_taped ≤ 100) (hz_m_at : m_at ≤ 100) (hz_m_to : m_to ≤ 100) (hz_m_many : m_many ≤ 64) (hz_m_readMany : m_readMany ≤ 64) (hz_m_size : m_size ≤ 64) (hv : v ≤ 255) : cpI l yX9_times wsX9_times ({ frames := 0, cells := 0, slots := 0, locals := 0 } : Room) D (tyIJ cI cJ cK) [.ref m0, .int 1, .int (nI v)] [(m0, .inr (9, [.int m_thrown, .int (nI m_told), .ref a_row, .ref a_tape, .int (nI m_taped), .int (nI m_at), .int (nI m_to), .int (nI m_many), .ref a_number, .ref a_read, .int (nI m_readMany), .ref a_readBits, .ref a_stands, .ref a_parted, .ref a_bitsWere, .ref a_stood, .ref a_chosen, .ref a_bestChosen, .int m_fewest, .ref a_often, .ref a_sorted, .int (nI m_size), .ref a_risen, .ref a_risenWays])), (a_often, .inl (cI, 512, .inl mf))] (fun (r : Int32) => r = mf (v + 256)) := by
  refine cpI.of (cc := cX9_times) (maxL := 3) (ret := (some .int)) (by decide) rfl (Nat.le_of_ble_eq_true rfl) ?_
  intro p e s m below meth c ls hx hb hr hts hown hml hlocks hname hK hN hP hl
  have hl : lv_has ls 3 [(0, .ref m0), (1, .int 1), (2, .int (nI v))] := hl
  have hown : s.vm.findClass RX9 = some m.cls := hown
  have hi9 : ∀ w ∈ u_ws RX9 TX9 24, w ∈ wsX9_times := by decide +kernel
  have fl76 := hts (.fieldLink RX9 76 "PlaneColumnModel" "often" "[I") (by decide +kernel)
  refine lv_aload_n hx hb dX9_times_0 rfl (lv_at hl 0 rfl) ?_
  refine va_get (ci := 9) (v := .ref a_often) (C := RX9) (T := TX9) (N := 24) hx hb hts hi9 hown hK hP 0 rfl rfl 19 (by decide) fl76 (fun _ h9 => h9) rfl dX9_times_1 ?_
  refine lv_sipush (v := 256) hx hb dX9_times_4 (by decide +kernel) ?_
  refine lv_iload_n hx hb dX9_times_7 rfl (lv_at hl 1 rfl) ?_
  refine lv_imul hx hb dX9_times_8 ?_
  refine my_eqi (y := 256) (by decide +kernel) ?_
  refine lv_iload_n hx hb dX9_times_9 rfl (lv_at hl 2 rfl) ?_
  refine lv_iadd hx hb dX9_times_10 ?_
  refine my_eqi (y := nI (v + 256)) (my_addN2 v 256) ?_
  refine va_iald hx hb hK hP 1 0 rfl rfl (vp_in_nI (by omega) (by omega)) dX9_times_11 ?_
  refine my_eqi (y := mf (v + 256)) (congrArg mf (nI_clamp (by omega))) ?_
  exact my_rpI hx hb hr hlocks (rfl) dX9_times_12
set_option maxHeartbeats 4000000 in
set_option maxRecDepth 100000 in
theorem kt1_X9_times (l : Launch) (D : va_G) (cI cJ cK : ClassId) (m0 : Nat) (a_row : Nat) (a_tape : Nat) (a_number : Nat) (a_read : Nat) (a_readBits : Nat) (a_stands : Nat) (a_parted : Nat) (a_bitsWere : Nat) (a_stood : Nat) (a_chosen : Nat) (a_bestChosen : Nat) (a_often : Nat) (a_sorted : Nat) (a_risen : Nat) (a_risenWays : Nat) (m_thrown : Int32) (m_told : Nat) (m_taped : Nat) (m_at : Nat) (m_to : Nat) (m_many : Nat) (m_readMany : Nat) (m_fewest : Int32) (m_size : Nat) (mf : Nat → Int32) (v : Nat) (cf : Nat → Nat) (hz_m_told : m_told ≤ 64) (hz_m_taped : m_taped ≤ 100) (hz_m_at : m_at ≤ 100) (hz_m_to : m_to ≤ 100) (hz_m_many : m_many ≤ 64) (hz_m_readMany : m_readMany ≤ 64) (hz_m_size : m_size ≤ 64) (hv : v < 256) (hcf : ∀ v, v < 256 → mf (v + 256) = nI (cf v)) (hc64 : cf v ≤ 64) : cpI l yX9_times wsX9_times ({ frames := 0, cells := 0, slots := 0, locals := 0 } : Room) D (tyIJ cI cJ cK) [.ref m0, .int 1, .int (nI v)] [(m0, .inr (9, [.int m_thrown, .int (nI m_told), .ref a_row, .ref a_tape, .int (nI m_taped), .int (nI m_at), .int (nI m_to), .int (nI m_many), .ref a_number, .ref a_read, .int (nI m_readMany), .ref a_readBits, .ref a_stands, .ref a_parted, .ref a_bitsWere, .ref a_stood, .ref a_chosen, .ref a_bestChosen, .int m_fewest, .ref a_often, .ref a_sorted, .int (nI m_size), .ref a_risen, .ref a_risenWays])), (a_often, .inl (cI, 512, .inl mf))] (fun (r : Int32) => ∃ (t' : Nat), r = nI t' ∧ t' = cf v ∧ t' ≤ 64) := by
  refine cpI.of (cc := cX9_times) (maxL := 3) (ret := (some .int)) (by decide) rfl (Nat.le_of_ble_eq_true rfl) ?_
  intro p e s m below meth c ls hx hb hr hts hown hml hlocks hname hK hN hP hl
  have hl : lv_has ls 3 [(0, .ref m0), (1, .int 1), (2, .int (nI v))] := hl
  have hown : s.vm.findClass RX9 = some m.cls := hown
  have hi9 : ∀ w ∈ u_ws RX9 TX9 24, w ∈ wsX9_times := by decide +kernel
  have fl76 := hts (.fieldLink RX9 76 "PlaneColumnModel" "often" "[I") (by decide +kernel)
  refine lv_aload_n hx hb dX9_times_0 rfl (lv_at hl 0 rfl) ?_
  refine va_get (ci := 9) (v := .ref a_often) (C := RX9) (T := TX9) (N := 24) hx hb hts hi9 hown hK hP 0 rfl rfl 19 (by decide) fl76 (fun _ h9 => h9) rfl dX9_times_1 ?_
  refine lv_sipush (v := 256) hx hb dX9_times_4 (by decide +kernel) ?_
  refine lv_iload_n hx hb dX9_times_7 rfl (lv_at hl 1 rfl) ?_
  refine lv_imul hx hb dX9_times_8 ?_
  refine my_eqi (y := 256) (by decide +kernel) ?_
  refine lv_iload_n hx hb dX9_times_9 rfl (lv_at hl 2 rfl) ?_
  refine lv_iadd hx hb dX9_times_10 ?_
  refine my_eqi (y := nI (v + 256)) (my_addN2 v 256) ?_
  refine va_iald hx hb hK hP 1 0 rfl rfl (vp_in_nI (by omega) (by omega)) dX9_times_11 ?_
  refine my_eqi (y := mf (v + 256)) (congrArg mf (nI_clamp (by omega))) ?_
  exact my_rpI hx hb hr hlocks (⟨(cf v), ((congrArg mf (by omega)).trans (hcf v hv)), rfl, hc64⟩) dX9_times_12
set_option maxHeartbeats 4000000 in
set_option maxRecDepth 100000 in
theorem k1_X9_within (l : Launch) (D : va_G) (cI cJ cK : ClassId) (m0 : Nat) (a_row : Nat) (a_tape : Nat) (a_number : Nat) (a_read : Nat) (a_readBits : Nat) (a_stands : Nat) (a_parted : Nat) (a_bitsWere : Nat) (a_stood : Nat) (a_chosen : Nat) (a_bestChosen : Nat) (a_often : Nat) (a_sorted : Nat) (a_risen : Nat) (a_risenWays : Nat) (m_thrown : Int32) (m_told : Nat) (m_taped : Nat) (m_at : Nat) (m_to : Nat) (m_many : Nat) (m_readMany : Nat) (m_fewest : Int32) (m_size : Nat) (mf : Nat → Int32) (a9 : Int32) (A_a9 : Int) (hA_a9 : a9.toInt = A_a9) (b9 : Int32) (A_b9 : Int) (hA_b9 : b9.toInt = A_b9) (hz_m_told : m_told ≤ 64) (hz_m_taped : m_taped ≤ 100) (hz_m_at : m_at ≤ 100) (hz_m_to : m_to ≤ 100) (hz_m_many : m_many ≤ 64) (hz_m_readMany : m_readMany ≤ 64) (hz_m_size : m_size ≤ 64) (ha : A_a9 ≤ 255) : cpI l yX9_within wsX9_within ({ frames := 1, cells := 0, slots := 0, locals := 60 } : Room) D (tyIJ cI cJ cK) [.ref m0, .int 1, .int a9, .int b9] [(m0, .inr (9, [.int m_thrown, .int (nI m_told), .ref a_row, .ref a_tape, .int (nI m_taped), .int (nI m_at), .int (nI m_to), .int (nI m_many), .ref a_number, .ref a_read, .int (nI m_readMany), .ref a_readBits, .ref a_stands, .ref a_parted, .ref a_bitsWere, .ref a_stood, .ref a_chosen, .ref a_bestChosen, .int m_fewest, .ref a_often, .ref a_sorted, .int (nI m_size), .ref a_risen, .ref a_risenWays])), (a_often, .inl (cI, 512, .inl mf))] (fun (r : Int32) => True) := by
  refine cpI.of (cc := cX9_within) (maxL := 6) (ret := (some .int)) (by decide) rfl (Nat.le_of_ble_eq_true rfl) ?_
  intro p e s m below meth c ls hx hb hr hts hown hml hlocks hname hK hN hP hl
  have hl : lv_has ls 6 [(0, .ref m0), (1, .int 1), (2, .int a9), (3, .int b9)] := hl
  have hown : s.vm.findClass RX9 = some m.cls := hown
  refine lv_iconst (v := 0) hx hb dX9_within_0 (by decide +kernel) ?_
  refine lv_istore (lv' := [(4, .int 0), (0, .ref m0), (1, .int 1), (2, .int a9), (3, .int b9)]) hx hb dX9_within_1 hl (by decide) rfl (fun ls hl => ?_)
  refine lv_iconst (v := 0) hx hb dX9_within_3 (by decide +kernel) ?_
  refine lv_iload_n hx hb dX9_within_4 rfl (lv_at hl 3 rfl) ?_
  refine va_mmax hx hb (hml.trans hl.1.symm) hown (hts (.methodLink RX9 181 Lib.Math.max.name) (by decide +kernel)) (hts (.static Lib.Math.max.name) (by decide +kernel)) (hts (.initialized "java/lang/Math") (by decide +kernel)) (hts (.code Lib.Math.max.name Lib.Math.max.code 2 (some .int)) (by decide +kernel)) (Nat.le_of_ble_eq_true rfl) (Nat.le_of_ble_eq_true rfl) (Nat.le_of_ble_eq_true rfl) (Nat.le_of_ble_eq_true rfl) dX9_within_5 ?_
  refine lv_topi (fun z_1 ez_1 => ?_)
  have tz_1 := my_maxI (a := (0 : Int)) (b := a9.toInt) ez_1 (by decide +kernel) rfl
  refine lv_istore (lv' := [(5, .int z_1), (4, .int 0), (0, .ref m0), (1, .int 1), (2, .int a9), (3, .int b9)]) hx hb dX9_within_8 hl (by decide) rfl (fun ls hl => ?_)
  have loop10 : ∀ (n9 : Nat) (x : Int32) (y4_10 : Int32), (256 - x.toInt).toNat < n9 → (0 ≤ x.toInt) → (x.toInt ≤ 256) → ∀ (ls : Array Slot), lv_has ls 6 [(5, .int x), (4, .int y4_10), (0, .ref m0), (1, .int 1), (2, .int a9), (3, .int b9)] → W p l e ({ frames := 1, cells := 0, slots := 0, locals := 60 } : Room) s m [.ref m0, .int 1, .int a9, .int b9].toArray below meth c s.heap [] 0 0 (MQ below (vp_Si (fun (r : Int32) => True)) [.ref m0, .int 1, .int a9, .int b9].toArray s 0 0 (fun _ => False)) (F0 m 10 ls []) := by
    intro n9
    induction n9 with
    | zero =>
      intro x y4_10 hn9
      exact absurd hn9 (Nat.not_lt_zero _)
    | succ n9 ih10 =>
      intro x y4_10 hn9 hx0 hx1 ls hl
      refine lv_iload hx hb dX9_within_10 (lv_at hl 0 rfl) ?_
      refine lv_iload_n hx hb dX9_within_12 rfl (lv_at hl 5 rfl) ?_
      refine lv_sipush (v := 255) hx hb dX9_within_13 (by decide +kernel) ?_
      refine va_mmin hx hb (hml.trans hl.1.symm) hown (hts (.methodLink RX9 186 Lib.Math.min.name) (by decide +kernel)) (hts (.static Lib.Math.min.name) (by decide +kernel)) (hts (.initialized "java/lang/Math") (by decide +kernel)) (hts (.code Lib.Math.min.name Lib.Math.min.code 2 (some .int)) (by decide +kernel)) (Nat.le_of_ble_eq_true rfl) (Nat.le_of_ble_eq_true rfl) (Nat.le_of_ble_eq_true rfl) (Nat.le_of_ble_eq_true rfl) dX9_within_16 ?_
      refine lv_topi (fun z_2 ez_2 => ?_)
      have tz_2 := my_minI (a := b9.toInt) (b := (255 : Int)) ez_2 rfl (by decide +kernel)
      refine lv_icmp_gt (tgt := 40) hx hb dX9_within_19 (by decide) (fun c19 => ?_) (fun c19 => ?_)
      ·
        have d19 : x.toInt > z_2.toInt := my_gt c19 rfl rfl
        refine lv_iload hx hb dX9_within_40 (lv_at hl 1 rfl) ?_
        exact my_rpI hx hb hr hlocks (trivial) dX9_within_42
      ·
        have d19 : x.toInt ≤ z_2.toInt := my_ngt c19 rfl rfl
        refine lv_iload hx hb dX9_within_22 (lv_at hl 1 rfl) ?_
        refine lv_aload_n hx hb dX9_within_24 rfl (lv_at hl 2 rfl) ?_
        refine lv_iload_n hx hb dX9_within_25 rfl (lv_at hl 3 rfl) ?_
        refine lv_iload hx hb dX9_within_26 (lv_at hl 0 rfl) ?_
        obtain ⟨w_3, ew_3, hw_3⟩ : ∃ w : Nat, x = nI w ∧ (w : Int) = (x : Int32).toInt := my_natE (by omega)
        refine my_eqi (y := nI w_3) ew_3 ?_
        refine my_gpI (my_pV (As := [.int 1, .int (nI w_3)]) (rest := [.int y4_10]) (ci := 9) ⟨hx, hb, hml, hown, hts⟩ (cwV 2 hts gX9_within_X9_times rfl rfl rfl (by decide +kernel) ⟨Nat.le_of_ble_eq_true rfl, Nat.le_of_ble_eq_true rfl⟩) hN hK hP [0, 1] rfl 0 rfl rfl rfl rfl hl.1 rfl (Nat.le_of_ble_eq_true rfl) dX9_within_28 ⟨Nat.le_of_ble_eq_true rfl, Nat.le_of_ble_eq_true rfl⟩  (k1_X9_times l D cI cJ cK m0 a_row a_tape a_number a_read a_readBits a_stands a_parted a_bitsWere a_stood a_chosen a_bestChosen a_often a_sorted a_risen a_risenWays m_thrown m_told m_taped m_at m_to m_many m_readMany m_fewest m_size mf w_3 (by first | assumption | omega | decide +kernel) (by first | assumption | omega | decide +kernel) (by first | assumption | omega | decide +kernel) (by first | assumption | omega | decide +kernel) (by first | assumption | omega | decide +kernel) (by first | assumption | omega | decide +kernel) (by first | assumption | omega | decide +kernel) (by first | assumption | omega | decide +kernel))) (fun r hp => ?_)
        obtain rfl := hp
        refine lv_iadd hx hb dX9_within_31 ?_
        refine lv_topi (fun z_4 ez_4 => ?_)
        try have tz_4 : z_4.toInt = y4_10.toInt + (mf (w_3 + 256)).toInt := by rw [ez_4]; exact my_addI rfl rfl (by omega) (by omega)
        refine lv_istore (lv' := [(4, .int z_4), (5, .int x), (0, .ref m0), (1, .int 1), (2, .int a9), (3, .int b9)]) hx hb dX9_within_32 hl (by decide) rfl (fun ls hl => ?_)
        obtain ⟨z_5, ez_5⟩ : ∃ y : Int32, y = x + (1) := ⟨_, rfl⟩
        try have tz_5 : z_5.toInt = x.toInt + (1) := by rw [ez_5]; exact my_addI rfl (by decide +kernel) (by omega) (by omega)
        refine lv_iinc (v := z_5) (lv' := [(5, .int z_5), (4, .int z_4), (0, .ref m0), (1, .int 1), (2, .int a9), (3, .int b9)]) hx hb dX9_within_34 hl (k := 1) rfl (by rw [ez_5]; rfl) (by decide) rfl (fun ls hl => ?_)
        refine lv_goto (tgt := 10) hx hb dX9_within_37 (by decide) ?_
        exact ih10  z_5 z_4 (by omega) (by first | assumption | omega | decide +kernel) (by first | assumption | omega | decide +kernel) ls (lv_sub hl [0, 1, 2, 3, 4, 5] rfl)
  have ec_6 : (0 : Int32).toInt = 0 := by decide +kernel
  exact loop10 (((256 - z_1.toInt).toNat) + 1) z_1 (0 : Int32) (Nat.lt_succ_self _) (by first | assumption | omega | decide +kernel) (by first | assumption | omega | decide +kernel) ls (lv_sub hl [0, 1, 2, 3, 4, 5] rfl)
abbrev wl_k_X9_sorts (cI cJ cK : ClassId) (m0 : Nat) (a_row : Nat) (a_tape : Nat) (a_number : Nat) (a_read : Nat) (a_readBits : Nat) (a_stands : Nat) (a_parted : Nat) (a_bitsWere : Nat) (a_stood : Nat) (a_chosen : Nat) (a_bestChosen : Nat) (a_often : Nat) (a_sorted : Nat) (a_risen : Nat) (a_risenWays : Nat) (v0_ : Int32) (v1_ : Int32) (v2_ : Int32) (v3_ : Int32) (v4_ : Int32) (v5_ : Int32) (v6_ : Int32) (v7_ : Int32) (v8_ : Int32) (v9_ : Nat → Int32) (v10_ : Nat → Int32) (v11_ : Nat → Int32) : va_W := [(m0, .inr (9, [.int v0_, .int v1_, .ref a_row, .ref a_tape, .int v2_, .int v3_, .int v4_, .int v5_, .ref a_number, .ref a_read, .int v6_, .ref a_readBits, .ref a_stands, .ref a_parted, .ref a_bitsWere, .ref a_stood, .ref a_chosen, .ref a_bestChosen, .int v7_, .ref a_often, .ref a_sorted, .int v8_, .ref a_risen, .ref a_risenWays])), (a_number, .inl (cI, 64, .inl v9_)), (a_often, .inl (cI, 512, .inl v10_)), (a_sorted, .inl (cI, 128, .inl v11_))]
set_option maxHeartbeats 4000000 in
set_option maxRecDepth 100000 in
theorem k_X9_sorts (l : Launch) (D : va_G) (cI cJ cK : ClassId) (m0 : Nat) (a_row : Nat) (a_tape : Nat) (a_number : Nat) (a_read : Nat) (a_readBits : Nat) (a_stands : Nat) (a_parted : Nat) (a_bitsWere : Nat) (a_stood : Nat) (a_chosen : Nat) (a_bestChosen : Nat) (a_often : Nat) (a_sorted : Nat) (a_risen : Nat) (a_risenWays : Nat) (m_thrown : Int32) (m_told : Nat) (m_taped : Nat) (m_at : Nat) (m_to : Nat) (m_many : Nat) (m_readMany : Nat) (m_fewest : Int32) (m_size : Nat) (mn : Nat → Int32) (mf : Nat → Int32) (mg : Nat → Int32) (a : Nat) (b : Nat) (hz_m_told : m_told ≤ 64) (hz_m_taped : m_taped ≤ 100) (hz_m_at : m_at ≤ 100) (hz_m_to : m_to ≤ 100) (hz_m_many : m_many ≤ 64) (hz_m_readMany : m_readMany ≤ 64) (hz_m_size : m_size ≤ 64) (hR_mn : RB 0 255 mn) (hR_mg : RB 0 255 mg) (hab : a ≤ b) (hb9 : b ≤ 64) : ctV l yX9_sorts wsX9_sorts ({ frames := 1, cells := 0, slots := 0, locals := 60 } : Room) D (tyIJ cI cJ cK) [.ref m0, .int (nI a), .int (nI b)] (wl_k_X9_sorts cI cJ cK m0 a_row a_tape a_number a_read a_readBits a_stands a_parted a_bitsWere a_stood a_chosen a_bestChosen a_often a_sorted a_risen a_risenWays m_thrown (nI m_told) (nI m_taped) (nI m_at) (nI m_to) (nI m_many) (nI m_readMany) m_fewest (nI m_size) mn mf mg) (fun (u : va_W) => ∃ (m_size' : Nat) (mf' : Nat → Int32) (mg' : Nat → Int32), u = (wl_k_X9_sorts cI cJ cK m0 a_row a_tape a_number a_read a_readBits a_stands a_parted a_bitsWere a_stood a_chosen a_bestChosen a_often a_sorted a_risen a_risenWays m_thrown (nI m_told) (nI m_taped) (nI m_at) (nI m_to) (nI m_many) (nI m_readMany) m_fewest (nI m_size') mn mf' mg') ∧ m_size' ≤ 64 ∧ RB 0 255 mg' ∧ (∀ v, v < 256 → mf' v = nI (cn mn v a b)) ∧ m_size' = b - a ∧ (∀ j, j < b - a → ∃ p, a ≤ p ∧ p < b ∧ mn p = mg' j) ∧ SRV mg' (cnF mn a b) 256) := by
  refine ctV.of (cc := cX9_sorts) (maxL := 5) (ret := none) (by decide) rfl (Nat.le_of_ble_eq_true rfl) ?_
  intro p e s m below meth c ls A hx hb hr hts hown hml hlocks hname hA hK hN hP hD hS hl
  have hl : lv_has ls 5 [(0, .ref m0), (1, .int (nI a)), (2, .int (nI b))] := hl
  have hown : s.vm.findClass RX9 = some m.cls := hown
  have hi9 : ∀ w ∈ u_ws RX9 TX9 24, w ∈ wsX9_sorts := by decide +kernel
  have fl172 := hts (.fieldLink RX9 172 "PlaneColumnModel" "size" "I") (by decide +kernel)
  have fl79 := hts (.fieldLink RX9 79 "PlaneColumnModel" "sorted" "[I") (by decide +kernel)
  refine lv_aload_n hx hb dX9_sorts_0 rfl (lv_at hl 0 rfl) ?_
  refine lv_iconst (v := 0) hx hb dX9_sorts_1 (by decide +kernel) ?_
  refine lv_iload_n hx hb dX9_sorts_2 rfl (lv_at hl 1 rfl) ?_
  refine lv_iload_n hx hb dX9_sorts_3 rfl (lv_at hl 2 rfl) ?_
  refine my_goVS (wc := (wl_k0_X9_counts cI cJ cK m0 a_row a_tape a_number a_read a_readBits a_stands a_parted a_bitsWere a_stood a_chosen a_bestChosen a_often a_sorted a_risen a_risenWays m_thrown (nI m_told) (nI m_taped) (nI m_at) (nI m_to) (nI m_many) (nI m_readMany) m_fewest (nI m_size) mn mf)) hP hD hS hA [0, 1, 2] rfl [some 0, some 1, some 2] (by decide +kernel) (my_cV (As := [.int 0, .int (nI a), .int (nI b)]) (rest := []) (ci := 9) (wc := (wl_k0_X9_counts cI cJ cK m0 a_row a_tape a_number a_read a_readBits a_stands a_parted a_bitsWere a_stood a_chosen a_bestChosen a_often a_sorted a_risen a_risenWays m_thrown (nI m_told) (nI m_taped) (nI m_at) (nI m_to) (nI m_many) (nI m_readMany) m_fewest (nI m_size) mn mf)) ⟨hx, hb, hml, hown, hts⟩ (cwV 3 hts gX9_sorts_X9_counts rfl rfl rfl (by decide +kernel) ⟨Nat.le_of_ble_eq_true rfl, Nat.le_of_ble_eq_true rfl⟩) hN hK hP hD [0, 1, 2] rfl (by decide) rfl 0 rfl rfl rfl rfl hl.1 rfl (Nat.le_of_ble_eq_true rfl) dX9_sorts_4 ⟨Nat.le_of_ble_eq_true rfl, Nat.le_of_ble_eq_true rfl⟩  ((k0_X9_counts l D cI cJ cK m0 a_row a_tape a_number a_read a_readBits a_stands a_parted a_bitsWere a_stood a_chosen a_bestChosen a_often a_sorted a_risen a_risenWays m_thrown m_told m_taped m_at m_to m_many m_readMany m_fewest m_size mn mf a b (by first | assumption | omega | decide +kernel) (by first | assumption | omega | decide +kernel) (by first | assumption | omega | decide +kernel) (by first | assumption | omega | decide +kernel) (by first | assumption | omega | decide +kernel) (by first | assumption | omega | decide +kernel) (by first | assumption | omega | decide +kernel) hR_mn (by first | assumption | omega | decide +kernel) (by first | assumption | omega | decide +kernel)) _)) (fun u H locs hp hPD hS => ?_)
  obtain ⟨mf_1, rfl, hcn0, hco0⟩ := hp
  obtain ⟨hP, hD⟩ := hPD rfl
  have hP : va_P D vwCl (wl_k_X9_sorts cI cJ cK m0 a_row a_tape a_number a_read a_readBits a_stands a_parted a_bitsWere a_stood a_chosen a_bestChosen a_often a_sorted a_risen a_risenWays m_thrown (nI m_told) (nI m_taped) (nI m_at) (nI m_to) (nI m_many) (nI m_readMany) m_fewest (nI m_size) mn mf_1 mg) H := hP
  have hD : va_D A (wl_k_X9_sorts cI cJ cK m0 a_row a_tape a_number a_read a_readBits a_stands a_parted a_bitsWere a_stood a_chosen a_bestChosen a_often a_sorted a_risen a_risenWays m_thrown (nI m_told) (nI m_taped) (nI m_at) (nI m_to) (nI m_many) (nI m_readMany) m_fewest (nI m_size) mn mf_1 mg) := hD
  refine lv_aload_n hx hb dX9_sorts_7 rfl (lv_at hl 0 rfl) ?_
  refine lv_iconst (v := 0) hx hb dX9_sorts_8 (by decide +kernel) ?_
  refine va_put (ci := 9) (v := .int 0) (ty := (.int)) (C := RX9) (T := TX9) (N := 24) hx hb hts hi9 tyX9 tyX9_ok nmX9 hown hK hP hD hS 0 rfl rfl 21 (by decide) fl172 (fun _ h9 => h9) rfl (by decide +kernel) rfl rfl (Nat.le_of_ble_eq_true rfl) dX9_sorts_9 (fun H locs hP hD hS => ?_)
  have hP : va_P D vwCl (wl_k_X9_sorts cI cJ cK m0 a_row a_tape a_number a_read a_readBits a_stands a_parted a_bitsWere a_stood a_chosen a_bestChosen a_often a_sorted a_risen a_risenWays m_thrown (nI m_told) (nI m_taped) (nI m_at) (nI m_to) (nI m_many) (nI m_readMany) m_fewest 0 mn mf_1 mg) H := hP
  have hD : va_D A (wl_k_X9_sorts cI cJ cK m0 a_row a_tape a_number a_read a_readBits a_stands a_parted a_bitsWere a_stood a_chosen a_bestChosen a_often a_sorted a_risen a_risenWays m_thrown (nI m_told) (nI m_taped) (nI m_at) (nI m_to) (nI m_many) (nI m_readMany) m_fewest 0 mn mf_1 mg) := hD
  refine lv_iconst (v := 0) hx hb dX9_sorts_12 (by decide +kernel) ?_
  refine lv_istore_n (lv' := [(3, .int 0), (0, .ref m0), (1, .int (nI a)), (2, .int (nI b))]) hx hb dX9_sorts_13 rfl hl (by decide) rfl (fun ls hl => ?_)
  have loop14 : ∀ (n9 : Nat) (v : Nat) (m0_size_14 : Nat) (a_sorted_14 : Nat → Int32), 256 - v < n9 → (v ≤ 256) → (m0_size_14 = fb_sm (fun u => cn mn u a b) v) → (∀ j, j < m0_size_14 → ∃ p, a ≤ p ∧ p < b ∧ mn p = a_sorted_14 j) → (SRV a_sorted_14 (fun u => cn mn u a b) v) → (m0_size_14 ≤ 64) → (RB 0 255 a_sorted_14) → ∀ (H : Heap) (locs : List Loc) (ls : Array Slot), va_P D vwCl (wl_k_X9_sorts cI cJ cK m0 a_row a_tape a_number a_read a_readBits a_stands a_parted a_bitsWere a_stood a_chosen a_bestChosen a_often a_sorted a_risen a_risenWays m_thrown (nI m_told) (nI m_taped) (nI m_at) (nI m_to) (nI m_many) (nI m_readMany) m_fewest (nI m0_size_14) mn mf_1 a_sorted_14) H → va_D A (wl_k_X9_sorts cI cJ cK m0 a_row a_tape a_number a_read a_readBits a_stands a_parted a_bitsWere a_stood a_chosen a_bestChosen a_often a_sorted a_risen a_risenWays m_thrown (nI m_told) (nI m_taped) (nI m_at) (nI m_to) (nI m_many) (nI m_readMany) m_fewest (nI m0_size_14) mn mf_1 a_sorted_14) → va_S A s.heap H locs → lv_has ls 5 [(3, .int (nI v)), (0, .ref m0), (1, .int (nI a)), (2, .int (nI b))] → W p l e ({ frames := 1, cells := 0, slots := 0, locals := 60 } : Room) s m [.ref m0, .int (nI a), .int (nI b)].toArray below meth c H locs 0 0 (MQ below (va_Qv (fun (u : va_W) => ∃ (m_size' : Nat) (mf' : Nat → Int32) (mg' : Nat → Int32), u = (wl_k_X9_sorts cI cJ cK m0 a_row a_tape a_number a_read a_readBits a_stands a_parted a_bitsWere a_stood a_chosen a_bestChosen a_often a_sorted a_risen a_risenWays m_thrown (nI m_told) (nI m_taped) (nI m_at) (nI m_to) (nI m_many) (nI m_readMany) m_fewest (nI m_size') mn mf' mg') ∧ m_size' ≤ 64 ∧ RB 0 255 mg' ∧ (∀ v, v < 256 → mf' v = nI (cn mn v a b)) ∧ m_size' = b - a ∧ (∀ j, j < b - a → ∃ p, a ≤ p ∧ p < b ∧ mn p = mg' j) ∧ SRV mg' (cnF mn a b) 256) (my_B D (tyIJ cI cJ cK) A) A) [.ref m0, .int (nI a), .int (nI b)].toArray s 0 0 A) (F0 m 14 ls []) := by
    intro n9
    induction n9 with
    | zero =>
      intro v m0_size_14 a_sorted_14 hn9
      exact absurd hn9 (Nat.not_lt_zero _)
    | succ n9 ih14 =>
      intro v m0_size_14 a_sorted_14 hn9 hk_v hs1 hs2 hv2 hz_m0_size_14 hR_a_sorted_14 H locs ls hP hD hS hl
      have hpart := fun h9 => cn_part hR_mn (v := v) hab h9
      refine lv_iload_n hx hb dX9_sorts_14 rfl (lv_at hl 0 rfl) ?_
      refine lv_sipush (v := 256) hx hb dX9_sorts_15 (by decide +kernel) ?_
      refine lv_icmp_ge (tgt := 67) hx hb dX9_sorts_18 (by decide) (fun c18 => ?_) (fun c18 => ?_)
      ·
        have d18 : ((v : Nat) : Int) ≥ (256 : Int) := my_ge c18 (nI_toInt (by omega)) (by decide +kernel)
        exact my_retV hx hb hr hlocks hK hS (wl_k_X9_sorts cI cJ cK m0 a_row a_tape a_number a_read a_readBits a_stands a_parted a_bitsWere a_stood a_chosen a_bestChosen a_often a_sorted a_risen a_risenWays m_thrown (nI m_told) (nI m_taped) (nI m_at) (nI m_to) (nI m_many) (nI m_readMany) m_fewest (nI m0_size_14) mn mf_1 a_sorted_14) hP hD (⟨m0_size_14, mf_1, a_sorted_14, rfl, (by first | assumption | omega | trivial | decide +kernel), hR_a_sorted_14, hcn0, (by rw [hs1, show v = 256 from (by omega)]; exact cn_sum0 hR_mn hab), (by have e9 : m0_size_14 = b - a := (by rw [hs1, show v = 256 from (by omega)]; exact cn_sum0 hR_mn hab); rw [← e9]; exact hs2), (by have e9 : v = 256 := (by omega); rw [e9] at hv2; exact hv2)⟩) dX9_sorts_67
      ·
        have d18 : ((v : Nat) : Int) < (256 : Int) := my_nge c18 (nI_toInt (by omega)) (by decide +kernel)
        have hpart2 := cn_part hR_mn (v := v) hab (by omega)
        have ht9 := cn_times hcn0 (v := v) (by omega) hb9
        refine lv_iconst (v := 0) hx hb dX9_sorts_21 (by decide +kernel) ?_
        refine lv_istore (lv' := [(4, .int 0), (3, .int (nI v)), (0, .ref m0), (1, .int (nI a)), (2, .int (nI b))]) hx hb dX9_sorts_22 hl (by decide) rfl (fun ls hl => ?_)
        have loop24 : ∀ (n9 : Nat) (j : Nat) (m0_size_24 : Nat) (a_sorted_24 : Nat → Int32), 64 - j < n9 → (j ≤ 64) → (m0_size_24 = fb_sm (fun u => cn mn u a b) v + j) → (j ≤ cn mn v a b) → (∀ j, j < m0_size_24 → ∃ p, a ≤ p ∧ p < b ∧ mn p = a_sorted_24 j) → (SRV a_sorted_24 (fun u => cn mn u a b) v) → (∀ q, fb_sm (fun u => cn mn u a b) v ≤ q → q < fb_sm (fun u => cn mn u a b) v + j → a_sorted_24 q = nI v) → (m0_size_24 ≤ 64) → (RB 0 255 a_sorted_24) → ∀ (H : Heap) (locs : List Loc) (ls : Array Slot), va_P D vwCl (wl_k_X9_sorts cI cJ cK m0 a_row a_tape a_number a_read a_readBits a_stands a_parted a_bitsWere a_stood a_chosen a_bestChosen a_often a_sorted a_risen a_risenWays m_thrown (nI m_told) (nI m_taped) (nI m_at) (nI m_to) (nI m_many) (nI m_readMany) m_fewest (nI m0_size_24) mn mf_1 a_sorted_24) H → va_D A (wl_k_X9_sorts cI cJ cK m0 a_row a_tape a_number a_read a_readBits a_stands a_parted a_bitsWere a_stood a_chosen a_bestChosen a_often a_sorted a_risen a_risenWays m_thrown (nI m_told) (nI m_taped) (nI m_at) (nI m_to) (nI m_many) (nI m_readMany) m_fewest (nI m0_size_24) mn mf_1 a_sorted_24) → va_S A s.heap H locs → lv_has ls 5 [(4, .int (nI j)), (3, .int (nI v)), (0, .ref m0), (1, .int (nI a)), (2, .int (nI b))] → W p l e ({ frames := 1, cells := 0, slots := 0, locals := 60 } : Room) s m [.ref m0, .int (nI a), .int (nI b)].toArray below meth c H locs 0 0 (MQ below (va_Qv (fun (u : va_W) => ∃ (m_size' : Nat) (mf' : Nat → Int32) (mg' : Nat → Int32), u = (wl_k_X9_sorts cI cJ cK m0 a_row a_tape a_number a_read a_readBits a_stands a_parted a_bitsWere a_stood a_chosen a_bestChosen a_often a_sorted a_risen a_risenWays m_thrown (nI m_told) (nI m_taped) (nI m_at) (nI m_to) (nI m_many) (nI m_readMany) m_fewest (nI m_size') mn mf' mg') ∧ m_size' ≤ 64 ∧ RB 0 255 mg' ∧ (∀ v, v < 256 → mf' v = nI (cn mn v a b)) ∧ m_size' = b - a ∧ (∀ j, j < b - a → ∃ p, a ≤ p ∧ p < b ∧ mn p = mg' j) ∧ SRV mg' (cnF mn a b) 256) (my_B D (tyIJ cI cJ cK) A) A) [.ref m0, .int (nI a), .int (nI b)].toArray s 0 0 A) (F0 m 24 ls []) := by
          intro n9
          induction n9 with
          | zero =>
            intro j m0_size_24 a_sorted_24 hn9
            exact absurd hn9 (Nat.not_lt_zero _)
          | succ n9 ih24 =>
            intro j m0_size_24 a_sorted_24 hn9 hk_j hj1 hj2 hj3 hv3 hv4 hz_m0_size_24 hR_a_sorted_24 H locs ls hP hD hS hl
            refine lv_iload hx hb dX9_sorts_24 (lv_at hl 0 rfl) ?_
            refine lv_aload_n hx hb dX9_sorts_26 rfl (lv_at hl 2 rfl) ?_
            refine lv_iconst (v := 0) hx hb dX9_sorts_27 (by decide +kernel) ?_
            refine lv_iload_n hx hb dX9_sorts_28 rfl (lv_at hl 1 rfl) ?_
            refine my_gpI (my_pV (As := [.int 0, .int (nI v)]) (rest := [.int (nI j)]) (ci := 9) ⟨hx, hb, hml, hown, hts⟩ (cwV 2 hts gX9_sorts_X9_times rfl rfl rfl (by decide +kernel) ⟨Nat.le_of_ble_eq_true rfl, Nat.le_of_ble_eq_true rfl⟩) hN hK hP [0, 2] rfl 0 rfl rfl rfl rfl hl.1 rfl (Nat.le_of_ble_eq_true rfl) dX9_sorts_29 ⟨Nat.le_of_ble_eq_true rfl, Nat.le_of_ble_eq_true rfl⟩  (k0_X9_times l D cI cJ cK m0 a_row a_tape a_number a_read a_readBits a_stands a_parted a_bitsWere a_stood a_chosen a_bestChosen a_often a_sorted a_risen a_risenWays m_thrown m_told m_taped m_at m_to m_many m_readMany m_fewest m0_size_24 mf_1 v (by first | assumption | omega | decide +kernel) (by first | assumption | omega | decide +kernel) (by first | assumption | omega | decide +kernel) (by first | assumption | omega | decide +kernel) (by first | assumption | omega | decide +kernel) (by first | assumption | omega | decide +kernel) (by first | assumption | omega | decide +kernel) (by first | assumption | omega | decide +kernel))) (fun r hp => ?_)
            obtain rfl := hp
            refine lv_icmp_ge (tgt := 61) hx hb dX9_sorts_32 (by decide) (fun c32 => ?_) (fun c32 => ?_)
            ·
              have d32 : ((j : Nat) : Int) ≥ (mf_1 v).toInt := my_ge c32 (nI_toInt (by omega)) rfl
              refine lv_iinc (v := nI (v + 1)) (lv' := [(3, .int (nI (v + 1))), (4, .int (nI j)), (0, .ref m0), (1, .int (nI a)), (2, .int (nI b))]) hx hb dX9_sorts_61 hl (k := 1) rfl (my_incN v 1 (by decide +kernel)) (by decide) rfl (fun ls hl => ?_)
              refine lv_goto (tgt := 14) hx hb dX9_sorts_64 (by decide) ?_
              exact ih14  (v + 1) m0_size_24 a_sorted_24 (by omega) (by first | assumption | omega | decide +kernel) (by rw [fb_sm_succ]; omega) (by assumption) (sr_out hv3 hv4 (by omega)) (by first | assumption | omega | decide +kernel) hR_a_sorted_24 _ _ ls hP hD hS (lv_sub hl [0, 2, 3, 4] rfl)
            ·
              have d32 : ((j : Nat) : Int) < (mf_1 v).toInt := my_nge c32 (nI_toInt (by omega)) rfl
              refine lv_aload_n hx hb dX9_sorts_35 rfl (lv_at hl 2 rfl) ?_
              refine va_get (ci := 9) (v := .ref a_sorted) (C := RX9) (T := TX9) (N := 24) hx hb hts hi9 hown hK hP 0 rfl rfl 20 (by decide) fl79 (fun _ h9 => h9) rfl dX9_sorts_36 ?_
              refine lv_aload_n hx hb dX9_sorts_39 rfl (lv_at hl 2 rfl) ?_
              refine va_get (ci := 9) (v := .int (nI m0_size_24)) (C := RX9) (T := TX9) (N := 24) hx hb hts hi9 hown hK hP 0 rfl rfl 21 (by decide) fl172 (fun _ h9 => h9) rfl dX9_sorts_40 ?_
              refine lv_iload_n hx hb dX9_sorts_43 rfl (lv_at hl 1 rfl) ?_
              refine va_iast hx hb hK hP hD hS 3 0 rfl rfl (vp_in_nI (by omega) (by omega)) dX9_sorts_44 (fun H locs hP hD hS => ?_)
              obtain ⟨g_2, eg_2⟩ : ∃ g : Nat → Int32, g = upd a_sorted_24 m0_size_24 (nI v) := ⟨_, rfl⟩
              have eU : upd a_sorted_24 (nI m0_size_24 : Int32).toNatClampNeg (nI v) = g_2 := by rw [eg_2, show (nI m0_size_24 : Int32).toNatClampNeg = m0_size_24 from nI_clamp (by omega)]
              rw [eU] at hP hD
              have hR_g_2 : RB 0 255 g_2 := by rw [eg_2]; exact hR_a_sorted_24.upd (nI_toInt (by omega)) (by omega) (by omega)
              have hP : va_P D vwCl (wl_k_X9_sorts cI cJ cK m0 a_row a_tape a_number a_read a_readBits a_stands a_parted a_bitsWere a_stood a_chosen a_bestChosen a_often a_sorted a_risen a_risenWays m_thrown (nI m_told) (nI m_taped) (nI m_at) (nI m_to) (nI m_many) (nI m_readMany) m_fewest (nI m0_size_24) mn mf_1 g_2) H := hP
              have hD : va_D A (wl_k_X9_sorts cI cJ cK m0 a_row a_tape a_number a_read a_readBits a_stands a_parted a_bitsWere a_stood a_chosen a_bestChosen a_often a_sorted a_risen a_risenWays m_thrown (nI m_told) (nI m_taped) (nI m_at) (nI m_to) (nI m_many) (nI m_readMany) m_fewest (nI m0_size_24) mn mf_1 g_2) := hD
              refine lv_aload_n hx hb dX9_sorts_45 rfl (lv_at hl 2 rfl) ?_
              refine lv_dup hx hb dX9_sorts_46 rfl ?_
              refine va_get (ci := 9) (v := .int (nI m0_size_24)) (C := RX9) (T := TX9) (N := 24) hx hb hts hi9 hown hK hP 0 rfl rfl 21 (by decide) fl172 (fun _ h9 => h9) rfl dX9_sorts_47 ?_
              refine lv_iconst (v := 1) hx hb dX9_sorts_50 (by decide +kernel) ?_
              refine lv_iadd hx hb dX9_sorts_51 ?_
              refine my_eqi (y := nI (m0_size_24 + 1)) (my_addN m0_size_24 1) ?_
              refine va_put (ci := 9) (v := .int (nI (m0_size_24 + 1))) (ty := (.int)) (C := RX9) (T := TX9) (N := 24) hx hb hts hi9 tyX9 tyX9_ok nmX9 hown hK hP hD hS 0 rfl rfl 21 (by decide) fl172 (fun _ h9 => h9) rfl (by decide +kernel) rfl rfl (Nat.le_of_ble_eq_true rfl) dX9_sorts_52 (fun H locs hP hD hS => ?_)
              have hP : va_P D vwCl (wl_k_X9_sorts cI cJ cK m0 a_row a_tape a_number a_read a_readBits a_stands a_parted a_bitsWere a_stood a_chosen a_bestChosen a_often a_sorted a_risen a_risenWays m_thrown (nI m_told) (nI m_taped) (nI m_at) (nI m_to) (nI m_many) (nI m_readMany) m_fewest (nI (m0_size_24 + 1)) mn mf_1 g_2) H := hP
              have hD : va_D A (wl_k_X9_sorts cI cJ cK m0 a_row a_tape a_number a_read a_readBits a_stands a_parted a_bitsWere a_stood a_chosen a_bestChosen a_often a_sorted a_risen a_risenWays m_thrown (nI m_told) (nI m_taped) (nI m_at) (nI m_to) (nI m_many) (nI m_readMany) m_fewest (nI (m0_size_24 + 1)) mn mf_1 g_2) := hD
              refine lv_iinc (v := nI (j + 1)) (lv' := [(4, .int (nI (j + 1))), (3, .int (nI v)), (0, .ref m0), (1, .int (nI a)), (2, .int (nI b))]) hx hb dX9_sorts_55 hl (k := 0) rfl (my_incN j 1 (by decide +kernel)) (by decide) rfl (fun ls hl => ?_)
              refine lv_goto (tgt := 24) hx hb dX9_sorts_58 (by decide) ?_
              exact ih24  (j + 1) (m0_size_24 + 1) g_2 (by omega) (by first | assumption | omega | decide +kernel) (by first | assumption | omega | decide +kernel) (by first | assumption | omega | decide +kernel) (so_step (by assumption) hj3 (by omega)) (sr_in hv3 (by assumption) (by omega)) (sr_in2 hv4 (by assumption) (by omega)) (by first | assumption | omega | decide +kernel) hR_g_2 _ _ ls hP hD hS (lv_sub hl [0, 1, 2, 3, 4] rfl)
        exact loop24 ((64 - 0) + 1) 0 m0_size_14 a_sorted_14 (Nat.lt_succ_self _) (by first | assumption | omega | decide +kernel) (by first | assumption | omega | decide +kernel) (by first | assumption | omega | decide +kernel) (hs2) (hv2) (fun q h1 h2 => absurd h2 (by omega)) (by first | assumption | omega | decide +kernel) hR_a_sorted_14 _ _ ls hP hD hS (lv_sub hl [0, 1, 2, 3, 4] rfl)
  exact loop14 ((256 - 0) + 1) 0 0 mg (Nat.lt_succ_self _) (by first | assumption | omega | decide +kernel) (rfl) (fun j h => absurd h (Nat.not_lt_zero j)) (sr_0) (by first | assumption | omega | decide +kernel) hR_mg _ _ ls hP hD hS (lv_sub hl [0, 1, 2, 3] rfl)
set_option maxHeartbeats 4000000 in
set_option maxRecDepth 100000 in
theorem k_X9_visits_1 (l : Launch) (D : va_G) (cI cJ cK : ClassId) (m0 : Nat) (a_row : Nat) (a_tape : Nat) (a_number : Nat) (a_read : Nat) (a_readBits : Nat) (a_stands : Nat) (a_parted : Nat) (a_bitsWere : Nat) (a_stood : Nat) (a_chosen : Nat) (a_bestChosen : Nat) (a_often : Nat) (a_sorted : Nat) (a_risen : Nat) (a_risenWays : Nat) (m_thrown : Int32) (m_told : Nat) (m_taped : Nat) (m_at : Nat) (m_to : Nat) (m_many : Nat) (m_readMany : Nat) (m_fewest : Int32) (m_size : Nat) (mf : Nat → Int32) (f : Nat) (a : Nat) (b : Nat) (hz_m_told : m_told ≤ 64) (hz_m_taped : m_taped ≤ 100) (hz_m_at : m_at ≤ 100) (hz_m_to : m_to ≤ 100) (hz_m_many : m_many ≤ 64) (hz_m_readMany : m_readMany ≤ 64) (hz_m_size : m_size ≤ 64) (hf : f + 1 ≤ 256) (ha : a ≤ 255) (hb9 : b ≤ 255) : cpI l yX9_visits wsX9_visits ({ frames := 2, cells := 0, slots := 0, locals := 120 } : Room) D (tyIJ cI cJ cK) [.ref m0, .int (nI f), .int 1, .int (nI a), .int (nI b)] [(m0, .inr (9, [.int m_thrown, .int (nI m_told), .ref a_row, .ref a_tape, .int (nI m_taped), .int (nI m_at), .int (nI m_to), .int (nI m_many), .ref a_number, .ref a_read, .int (nI m_readMany), .ref a_readBits, .ref a_stands, .ref a_parted, .ref a_bitsWere, .ref a_stood, .ref a_chosen, .ref a_bestChosen, .int m_fewest, .ref a_often, .ref a_sorted, .int (nI m_size), .ref a_risen, .ref a_risenWays])), (a_often, .inl (cI, 512, .inl mf))] (fun (r : Int32) => True) := by
  refine cpI.of (cc := cX9_visits) (maxL := 6) (ret := (some .int)) (by decide) rfl (Nat.le_of_ble_eq_true rfl) ?_
  intro p e s m below meth c ls hx hb hr hts hown hml hlocks hname hK hN hP hl
  have hl : lv_has ls 6 [(0, .ref m0), (1, .int (nI f)), (2, .int 1), (3, .int (nI a)), (4, .int (nI b))] := hl
  have hown : s.vm.findClass RX9 = some m.cls := hown
  refine lv_iload_n hx hb dX9_visits_0 rfl (lv_at hl 1 rfl) ?_
  refine lv_iload_n hx hb dX9_visits_1 rfl (lv_at hl 2 rfl) ?_
  refine lv_iadd hx hb dX9_visits_2 ?_
  refine my_eqi (y := nI (f + 1)) (my_addN f 1) ?_
  refine lv_iconst (v := 1) hx hb dX9_visits_3 (by decide +kernel) ?_
  refine lv_isub hx hb dX9_visits_4 ?_
  refine lv_topi (fun z_1 ez_1 => ?_)
  try have tz_1 : z_1.toInt = ((f + 1 : Nat) : Int) - (1 : Int) := by rw [ez_1]; exact my_subI (nI_toInt (by omega)) (by decide +kernel) (by omega) (by omega)
  refine lv_istore (lv' := [(5, .int z_1), (0, .ref m0), (1, .int (nI f)), (2, .int 1), (3, .int (nI a)), (4, .int (nI b))]) hx hb dX9_visits_5 hl (by decide) rfl (fun ls hl => ?_)
  refine lv_iload_n hx hb dX9_visits_7 rfl (lv_at hl 2 rfl) ?_
  refine lv_iload hx hb dX9_visits_8 (lv_at hl 5 rfl) ?_
  refine lv_icmp_gt (tgt := 30) hx hb dX9_visits_10 (by decide) (fun c10 => ?_) (fun c10 => ?_)
  ·
    have d10 : ((f : Nat) : Int) > ((b : Nat) : Int) := my_gt c10 (nI_toInt (by omega)) (nI_toInt (by omega))
    refine lv_iconst (v := 0) hx hb dX9_visits_30 (by decide +kernel) ?_
    exact my_rpI hx hb hr hlocks (trivial) dX9_visits_31
  ·
    have d10 : ((f : Nat) : Int) ≤ ((b : Nat) : Int) := my_ngt c10 (nI_toInt (by omega)) (nI_toInt (by omega))
    refine lv_iload hx hb dX9_visits_13 (lv_at hl 0 rfl) ?_
    refine lv_iload_n hx hb dX9_visits_15 rfl (lv_at hl 4 rfl) ?_
    refine lv_icmp_lt (tgt := 30) hx hb dX9_visits_16 (by decide) (fun c16 => ?_) (fun c16 => ?_)
    ·
      have d16 : z_1.toInt < ((a : Nat) : Int) := my_lt c16 rfl (nI_toInt (by omega))
      refine lv_iconst (v := 0) hx hb dX9_visits_30 (by decide +kernel) ?_
      exact my_rpI hx hb hr hlocks (trivial) dX9_visits_31
    ·
      have d16 : z_1.toInt ≥ ((a : Nat) : Int) := my_nlt c16 rfl (nI_toInt (by omega))
      refine lv_aload_n hx hb dX9_visits_19 rfl (lv_at hl 1 rfl) ?_
      refine lv_iconst (v := 0) hx hb dX9_visits_20 (by decide +kernel) ?_
      refine lv_iload_n hx hb dX9_visits_21 rfl (lv_at hl 2 rfl) ?_
      refine lv_iload hx hb dX9_visits_22 (lv_at hl 0 rfl) ?_
      refine my_gpI (my_pV (As := [.int 0, .int (nI f), .int z_1]) (rest := []) (ci := 9) ⟨hx, hb, hml, hown, hts⟩ (cwV 3 hts gX9_visits_X9_within rfl rfl rfl (by decide +kernel) ⟨Nat.le_of_ble_eq_true rfl, Nat.le_of_ble_eq_true rfl⟩) hN hK hP [0, 1] rfl 0 rfl rfl rfl rfl hl.1 rfl (Nat.le_of_ble_eq_true rfl) dX9_visits_24 ⟨Nat.le_of_ble_eq_true rfl, Nat.le_of_ble_eq_true rfl⟩  (k0_X9_within l D cI cJ cK m0 a_row a_tape a_number a_read a_readBits a_stands a_parted a_bitsWere a_stood a_chosen a_bestChosen a_often a_sorted a_risen a_risenWays m_thrown m_told m_taped m_at m_to m_many m_readMany m_fewest m_size mf (nI f) ((f : Nat) : Int) (nI_toInt (by omega)) z_1 z_1.toInt rfl (by first | assumption | omega | decide +kernel) (by first | assumption | omega | decide +kernel) (by first | assumption | omega | decide +kernel) (by first | assumption | omega | decide +kernel) (by first | assumption | omega | decide +kernel) (by first | assumption | omega | decide +kernel) (by first | assumption | omega | decide +kernel) (by first | assumption | omega | decide +kernel))) (fun r hp => ?_)
      obtain _ := hp
      obtain ⟨r_2, rfl⟩ : ∃ z, z = r := ⟨_, rfl⟩
      refine lv_if_ne (tgt := 32) hx hb dX9_visits_27 (by decide) (fun c27 => ?_) (fun c27 => ?_)
      ·
        have d27 : r_2.toInt ≠ (0 : Int) := my_ne c27 rfl (by decide +kernel)
        refine lv_iload_n hx hb dX9_visits_32 rfl (lv_at hl 2 rfl) ?_
        refine lv_iload_n hx hb dX9_visits_33 rfl (lv_at hl 4 rfl) ?_
        refine lv_icmp_lt (tgt := 46) hx hb dX9_visits_34 (by decide) (fun c34 => ?_) (fun c34 => ?_)
        ·
          have d34 : ((f : Nat) : Int) < ((a : Nat) : Int) := my_lt c34 (nI_toInt (by omega)) (nI_toInt (by omega))
          exact absurd d34 (by omega)
        ·
          have d34 : ((f : Nat) : Int) ≥ ((a : Nat) : Int) := my_nlt c34 (nI_toInt (by omega)) (nI_toInt (by omega))
          refine lv_iload hx hb dX9_visits_37 (lv_at hl 0 rfl) ?_
          refine lv_iload hx hb dX9_visits_39 (lv_at hl 5 rfl) ?_
          refine lv_icmp_gt (tgt := 46) hx hb dX9_visits_41 (by decide) (fun c41 => ?_) (fun c41 => ?_)
          ·
            have d41 : z_1.toInt > ((b : Nat) : Int) := my_gt c41 rfl (nI_toInt (by omega))
            exact absurd d41 (by omega)
          ·
            have d41 : z_1.toInt ≤ ((b : Nat) : Int) := my_ngt c41 rfl (nI_toInt (by omega))
            refine lv_iconst (v := 1) hx hb dX9_visits_44 (by decide +kernel) ?_
            exact my_rpI hx hb hr hlocks (trivial) dX9_visits_45
      ·
        have d27 : r_2.toInt = (0 : Int) := my_eq c27 rfl (by decide +kernel)
        refine lv_iconst (v := 0) hx hb dX9_visits_30 (by decide +kernel) ?_
        exact my_rpI hx hb hr hlocks (trivial) dX9_visits_31
set_option maxHeartbeats 4000000 in
set_option maxRecDepth 100000 in
theorem k_X9_visits_2 (l : Launch) (D : va_G) (cI cJ cK : ClassId) (m0 : Nat) (a_row : Nat) (a_tape : Nat) (a_number : Nat) (a_read : Nat) (a_readBits : Nat) (a_stands : Nat) (a_parted : Nat) (a_bitsWere : Nat) (a_stood : Nat) (a_chosen : Nat) (a_bestChosen : Nat) (a_often : Nat) (a_sorted : Nat) (a_risen : Nat) (a_risenWays : Nat) (m_thrown : Int32) (m_told : Nat) (m_taped : Nat) (m_at : Nat) (m_to : Nat) (m_many : Nat) (m_readMany : Nat) (m_fewest : Int32) (m_size : Nat) (mf : Nat → Int32) (f : Nat) (a : Nat) (b : Nat) (hz_m_told : m_told ≤ 64) (hz_m_taped : m_taped ≤ 100) (hz_m_at : m_at ≤ 100) (hz_m_to : m_to ≤ 100) (hz_m_many : m_many ≤ 64) (hz_m_readMany : m_readMany ≤ 64) (hz_m_size : m_size ≤ 64) (hf : f + 2 ≤ 256) (ha : a ≤ 255) (hb9 : b ≤ 255) : cpI l yX9_visits wsX9_visits ({ frames := 3, cells := 0, slots := 0, locals := 180 } : Room) D (tyIJ cI cJ cK) [.ref m0, .int (nI f), .int 2, .int (nI a), .int (nI b)] [(m0, .inr (9, [.int m_thrown, .int (nI m_told), .ref a_row, .ref a_tape, .int (nI m_taped), .int (nI m_at), .int (nI m_to), .int (nI m_many), .ref a_number, .ref a_read, .int (nI m_readMany), .ref a_readBits, .ref a_stands, .ref a_parted, .ref a_bitsWere, .ref a_stood, .ref a_chosen, .ref a_bestChosen, .int m_fewest, .ref a_often, .ref a_sorted, .int (nI m_size), .ref a_risen, .ref a_risenWays])), (a_often, .inl (cI, 512, .inl mf))] (fun (r : Int32) => True) := by
  refine cpI.of (cc := cX9_visits) (maxL := 6) (ret := (some .int)) (by decide) rfl (Nat.le_of_ble_eq_true rfl) ?_
  intro p e s m below meth c ls hx hb hr hts hown hml hlocks hname hK hN hP hl
  have hl : lv_has ls 6 [(0, .ref m0), (1, .int (nI f)), (2, .int 2), (3, .int (nI a)), (4, .int (nI b))] := hl
  have hown : s.vm.findClass RX9 = some m.cls := hown
  refine lv_iload_n hx hb dX9_visits_0 rfl (lv_at hl 1 rfl) ?_
  refine lv_iload_n hx hb dX9_visits_1 rfl (lv_at hl 2 rfl) ?_
  refine lv_iadd hx hb dX9_visits_2 ?_
  refine my_eqi (y := nI (f + 2)) (my_addN f 2) ?_
  refine lv_iconst (v := 1) hx hb dX9_visits_3 (by decide +kernel) ?_
  refine lv_isub hx hb dX9_visits_4 ?_
  refine lv_topi (fun z_1 ez_1 => ?_)
  try have tz_1 : z_1.toInt = ((f + 2 : Nat) : Int) - (1 : Int) := by rw [ez_1]; exact my_subI (nI_toInt (by omega)) (by decide +kernel) (by omega) (by omega)
  refine lv_istore (lv' := [(5, .int z_1), (0, .ref m0), (1, .int (nI f)), (2, .int 2), (3, .int (nI a)), (4, .int (nI b))]) hx hb dX9_visits_5 hl (by decide) rfl (fun ls hl => ?_)
  refine lv_iload_n hx hb dX9_visits_7 rfl (lv_at hl 2 rfl) ?_
  refine lv_iload hx hb dX9_visits_8 (lv_at hl 5 rfl) ?_
  refine lv_icmp_gt (tgt := 30) hx hb dX9_visits_10 (by decide) (fun c10 => ?_) (fun c10 => ?_)
  ·
    have d10 : ((f : Nat) : Int) > ((b : Nat) : Int) := my_gt c10 (nI_toInt (by omega)) (nI_toInt (by omega))
    refine lv_iconst (v := 0) hx hb dX9_visits_30 (by decide +kernel) ?_
    exact my_rpI hx hb hr hlocks (trivial) dX9_visits_31
  ·
    have d10 : ((f : Nat) : Int) ≤ ((b : Nat) : Int) := my_ngt c10 (nI_toInt (by omega)) (nI_toInt (by omega))
    refine lv_iload hx hb dX9_visits_13 (lv_at hl 0 rfl) ?_
    refine lv_iload_n hx hb dX9_visits_15 rfl (lv_at hl 4 rfl) ?_
    refine lv_icmp_lt (tgt := 30) hx hb dX9_visits_16 (by decide) (fun c16 => ?_) (fun c16 => ?_)
    ·
      have d16 : z_1.toInt < ((a : Nat) : Int) := my_lt c16 rfl (nI_toInt (by omega))
      refine lv_iconst (v := 0) hx hb dX9_visits_30 (by decide +kernel) ?_
      exact my_rpI hx hb hr hlocks (trivial) dX9_visits_31
    ·
      have d16 : z_1.toInt ≥ ((a : Nat) : Int) := my_nlt c16 rfl (nI_toInt (by omega))
      refine lv_aload_n hx hb dX9_visits_19 rfl (lv_at hl 1 rfl) ?_
      refine lv_iconst (v := 0) hx hb dX9_visits_20 (by decide +kernel) ?_
      refine lv_iload_n hx hb dX9_visits_21 rfl (lv_at hl 2 rfl) ?_
      refine lv_iload hx hb dX9_visits_22 (lv_at hl 0 rfl) ?_
      refine my_gpI (my_pV (As := [.int 0, .int (nI f), .int z_1]) (rest := []) (ci := 9) ⟨hx, hb, hml, hown, hts⟩ (cwV 3 hts gX9_visits_X9_within rfl rfl rfl (by decide +kernel) ⟨Nat.le_of_ble_eq_true rfl, Nat.le_of_ble_eq_true rfl⟩) hN hK hP [0, 1] rfl 0 rfl rfl rfl rfl hl.1 rfl (Nat.le_of_ble_eq_true rfl) dX9_visits_24 ⟨Nat.le_of_ble_eq_true rfl, Nat.le_of_ble_eq_true rfl⟩  (k0_X9_within l D cI cJ cK m0 a_row a_tape a_number a_read a_readBits a_stands a_parted a_bitsWere a_stood a_chosen a_bestChosen a_often a_sorted a_risen a_risenWays m_thrown m_told m_taped m_at m_to m_many m_readMany m_fewest m_size mf (nI f) ((f : Nat) : Int) (nI_toInt (by omega)) z_1 z_1.toInt rfl (by first | assumption | omega | decide +kernel) (by first | assumption | omega | decide +kernel) (by first | assumption | omega | decide +kernel) (by first | assumption | omega | decide +kernel) (by first | assumption | omega | decide +kernel) (by first | assumption | omega | decide +kernel) (by first | assumption | omega | decide +kernel) (by first | assumption | omega | decide +kernel))) (fun r hp => ?_)
      obtain _ := hp
      obtain ⟨r_2, rfl⟩ : ∃ z, z = r := ⟨_, rfl⟩
      refine lv_if_ne (tgt := 32) hx hb dX9_visits_27 (by decide) (fun c27 => ?_) (fun c27 => ?_)
      ·
        have d27 : r_2.toInt ≠ (0 : Int) := my_ne c27 rfl (by decide +kernel)
        refine lv_iload_n hx hb dX9_visits_32 rfl (lv_at hl 2 rfl) ?_
        refine lv_iload_n hx hb dX9_visits_33 rfl (lv_at hl 4 rfl) ?_
        refine lv_icmp_lt (tgt := 46) hx hb dX9_visits_34 (by decide) (fun c34 => ?_) (fun c34 => ?_)
        ·
          have d34 : ((f : Nat) : Int) < ((a : Nat) : Int) := my_lt c34 (nI_toInt (by omega)) (nI_toInt (by omega))
          refine lv_iconst (v := 1) hx hb dX9_visits_46 (by decide +kernel) ?_
          refine lv_aload_n hx hb dX9_visits_47 rfl (lv_at hl 1 rfl) ?_
          refine lv_iload_n hx hb dX9_visits_48 rfl (lv_at hl 2 rfl) ?_
          refine lv_iload_n hx hb dX9_visits_49 rfl (lv_at hl 3 rfl) ?_
          refine lv_iconst (v := 2) hx hb dX9_visits_50 (by decide +kernel) ?_
          refine lv_idiv hx hb dX9_visits_51 (by decide +kernel) ?_
          refine my_eqi (y := 1) (by decide +kernel) ?_
          refine lv_iload_n hx hb dX9_visits_52 rfl (lv_at hl 4 rfl) ?_
          refine lv_iload hx hb dX9_visits_53 (lv_at hl 5 rfl) ?_
          refine my_gpI (my_pV (As := [.int (nI f), .int 1, .int (nI a), .int (nI b)]) (rest := [.int 1]) (ci := 9) ⟨hx, hb, hml, hown, hts⟩ (cwV 4 hts gX9_visits_X9_visits rfl rfl rfl (by decide +kernel) ⟨Nat.le_of_ble_eq_true rfl, Nat.le_of_ble_eq_true rfl⟩) hN hK hP [0, 1] rfl 0 rfl rfl rfl rfl hl.1 rfl (Nat.le_of_ble_eq_true rfl) dX9_visits_55 ⟨Nat.le_of_ble_eq_true rfl, Nat.le_of_ble_eq_true rfl⟩  (k_X9_visits_1 l D cI cJ cK m0 a_row a_tape a_number a_read a_readBits a_stands a_parted a_bitsWere a_stood a_chosen a_bestChosen a_often a_sorted a_risen a_risenWays m_thrown m_told m_taped m_at m_to m_many m_readMany m_fewest m_size mf f a b (by first | assumption | omega | decide +kernel) (by first | assumption | omega | decide +kernel) (by first | assumption | omega | decide +kernel) (by first | assumption | omega | decide +kernel) (by first | assumption | omega | decide +kernel) (by first | assumption | omega | decide +kernel) (by first | assumption | omega | decide +kernel) (by first | assumption | omega | decide +kernel) (by first | assumption | omega | decide +kernel) (by first | assumption | omega | decide +kernel))) (fun r hp => ?_)
          obtain _ := hp
          obtain ⟨r_3, rfl⟩ : ∃ z, z = r := ⟨_, rfl⟩
          refine lv_iadd hx hb dX9_visits_58 ?_
          refine lv_topi (fun z_4 ez_4 => ?_)
          try have tz_4 : z_4.toInt = (1 : Int) + r_3.toInt := by rw [ez_4]; exact my_addI (by decide +kernel) rfl (by omega) (by omega)
          refine lv_aload_n hx hb dX9_visits_59 rfl (lv_at hl 1 rfl) ?_
          refine lv_iload_n hx hb dX9_visits_60 rfl (lv_at hl 2 rfl) ?_
          refine lv_iload_n hx hb dX9_visits_61 rfl (lv_at hl 3 rfl) ?_
          refine lv_iconst (v := 2) hx hb dX9_visits_62 (by decide +kernel) ?_
          refine lv_idiv hx hb dX9_visits_63 (by decide +kernel) ?_
          refine my_eqi (y := 1) (by decide +kernel) ?_
          refine lv_iadd hx hb dX9_visits_64 ?_
          refine my_eqi (y := nI (f + 1)) (my_addN f 1) ?_
          refine lv_iload_n hx hb dX9_visits_65 rfl (lv_at hl 3 rfl) ?_
          refine lv_iconst (v := 2) hx hb dX9_visits_66 (by decide +kernel) ?_
          refine lv_idiv hx hb dX9_visits_67 (by decide +kernel) ?_
          refine my_eqi (y := 1) (by decide +kernel) ?_
          refine lv_iload_n hx hb dX9_visits_68 rfl (lv_at hl 4 rfl) ?_
          refine lv_iload hx hb dX9_visits_69 (lv_at hl 5 rfl) ?_
          refine my_gpI (my_pV (As := [.int (nI (f + 1)), .int 1, .int (nI a), .int (nI b)]) (rest := [.int z_4]) (ci := 9) ⟨hx, hb, hml, hown, hts⟩ (cwV 4 hts gX9_visits_X9_visits rfl rfl rfl (by decide +kernel) ⟨Nat.le_of_ble_eq_true rfl, Nat.le_of_ble_eq_true rfl⟩) hN hK hP [0, 1] rfl 0 rfl rfl rfl rfl hl.1 rfl (Nat.le_of_ble_eq_true rfl) dX9_visits_71 ⟨Nat.le_of_ble_eq_true rfl, Nat.le_of_ble_eq_true rfl⟩  (k_X9_visits_1 l D cI cJ cK m0 a_row a_tape a_number a_read a_readBits a_stands a_parted a_bitsWere a_stood a_chosen a_bestChosen a_often a_sorted a_risen a_risenWays m_thrown m_told m_taped m_at m_to m_many m_readMany m_fewest m_size mf (f + 1) a b (by first | assumption | omega | decide +kernel) (by first | assumption | omega | decide +kernel) (by first | assumption | omega | decide +kernel) (by first | assumption | omega | decide +kernel) (by first | assumption | omega | decide +kernel) (by first | assumption | omega | decide +kernel) (by first | assumption | omega | decide +kernel) (by first | assumption | omega | decide +kernel) (by first | assumption | omega | decide +kernel) (by first | assumption | omega | decide +kernel))) (fun r hp => ?_)
          obtain _ := hp
          obtain ⟨r_5, rfl⟩ : ∃ z, z = r := ⟨_, rfl⟩
          refine lv_iadd hx hb dX9_visits_74 ?_
          refine lv_topi (fun z_6 ez_6 => ?_)
          try have tz_6 : z_6.toInt = z_4.toInt + r_5.toInt := by rw [ez_6]; exact my_addI rfl rfl (by omega) (by omega)
          exact my_rpI hx hb hr hlocks (trivial) dX9_visits_75
        ·
          have d34 : ((f : Nat) : Int) ≥ ((a : Nat) : Int) := my_nlt c34 (nI_toInt (by omega)) (nI_toInt (by omega))
          refine lv_iload hx hb dX9_visits_37 (lv_at hl 0 rfl) ?_
          refine lv_iload hx hb dX9_visits_39 (lv_at hl 5 rfl) ?_
          refine lv_icmp_gt (tgt := 46) hx hb dX9_visits_41 (by decide) (fun c41 => ?_) (fun c41 => ?_)
          ·
            have d41 : z_1.toInt > ((b : Nat) : Int) := my_gt c41 rfl (nI_toInt (by omega))
            refine lv_iconst (v := 1) hx hb dX9_visits_46 (by decide +kernel) ?_
            refine lv_aload_n hx hb dX9_visits_47 rfl (lv_at hl 1 rfl) ?_
            refine lv_iload_n hx hb dX9_visits_48 rfl (lv_at hl 2 rfl) ?_
            refine lv_iload_n hx hb dX9_visits_49 rfl (lv_at hl 3 rfl) ?_
            refine lv_iconst (v := 2) hx hb dX9_visits_50 (by decide +kernel) ?_
            refine lv_idiv hx hb dX9_visits_51 (by decide +kernel) ?_
            refine my_eqi (y := 1) (by decide +kernel) ?_
            refine lv_iload_n hx hb dX9_visits_52 rfl (lv_at hl 4 rfl) ?_
            refine lv_iload hx hb dX9_visits_53 (lv_at hl 5 rfl) ?_
            refine my_gpI (my_pV (As := [.int (nI f), .int 1, .int (nI a), .int (nI b)]) (rest := [.int 1]) (ci := 9) ⟨hx, hb, hml, hown, hts⟩ (cwV 4 hts gX9_visits_X9_visits rfl rfl rfl (by decide +kernel) ⟨Nat.le_of_ble_eq_true rfl, Nat.le_of_ble_eq_true rfl⟩) hN hK hP [0, 1] rfl 0 rfl rfl rfl rfl hl.1 rfl (Nat.le_of_ble_eq_true rfl) dX9_visits_55 ⟨Nat.le_of_ble_eq_true rfl, Nat.le_of_ble_eq_true rfl⟩  (k_X9_visits_1 l D cI cJ cK m0 a_row a_tape a_number a_read a_readBits a_stands a_parted a_bitsWere a_stood a_chosen a_bestChosen a_often a_sorted a_risen a_risenWays m_thrown m_told m_taped m_at m_to m_many m_readMany m_fewest m_size mf f a b (by first | assumption | omega | decide +kernel) (by first | assumption | omega | decide +kernel) (by first | assumption | omega | decide +kernel) (by first | assumption | omega | decide +kernel) (by first | assumption | omega | decide +kernel) (by first | assumption | omega | decide +kernel) (by first | assumption | omega | decide +kernel) (by first | assumption | omega | decide +kernel) (by first | assumption | omega | decide +kernel) (by first | assumption | omega | decide +kernel))) (fun r hp => ?_)
            obtain _ := hp
            obtain ⟨r_7, rfl⟩ : ∃ z, z = r := ⟨_, rfl⟩
            refine lv_iadd hx hb dX9_visits_58 ?_
            refine lv_topi (fun z_8 ez_8 => ?_)
            try have tz_8 : z_8.toInt = (1 : Int) + r_7.toInt := by rw [ez_8]; exact my_addI (by decide +kernel) rfl (by omega) (by omega)
            refine lv_aload_n hx hb dX9_visits_59 rfl (lv_at hl 1 rfl) ?_
            refine lv_iload_n hx hb dX9_visits_60 rfl (lv_at hl 2 rfl) ?_
            refine lv_iload_n hx hb dX9_visits_61 rfl (lv_at hl 3 rfl) ?_
            refine lv_iconst (v := 2) hx hb dX9_visits_62 (by decide +kernel) ?_
            refine lv_idiv hx hb dX9_visits_63 (by decide +kernel) ?_
            refine my_eqi (y := 1) (by decide +kernel) ?_
            refine lv_iadd hx hb dX9_visits_64 ?_
            refine my_eqi (y := nI (f + 1)) (my_addN f 1) ?_
            refine lv_iload_n hx hb dX9_visits_65 rfl (lv_at hl 3 rfl) ?_
            refine lv_iconst (v := 2) hx hb dX9_visits_66 (by decide +kernel) ?_
            refine lv_idiv hx hb dX9_visits_67 (by decide +kernel) ?_
            refine my_eqi (y := 1) (by decide +kernel) ?_
            refine lv_iload_n hx hb dX9_visits_68 rfl (lv_at hl 4 rfl) ?_
            refine lv_iload hx hb dX9_visits_69 (lv_at hl 5 rfl) ?_
            refine my_gpI (my_pV (As := [.int (nI (f + 1)), .int 1, .int (nI a), .int (nI b)]) (rest := [.int z_8]) (ci := 9) ⟨hx, hb, hml, hown, hts⟩ (cwV 4 hts gX9_visits_X9_visits rfl rfl rfl (by decide +kernel) ⟨Nat.le_of_ble_eq_true rfl, Nat.le_of_ble_eq_true rfl⟩) hN hK hP [0, 1] rfl 0 rfl rfl rfl rfl hl.1 rfl (Nat.le_of_ble_eq_true rfl) dX9_visits_71 ⟨Nat.le_of_ble_eq_true rfl, Nat.le_of_ble_eq_true rfl⟩  (k_X9_visits_1 l D cI cJ cK m0 a_row a_tape a_number a_read a_readBits a_stands a_parted a_bitsWere a_stood a_chosen a_bestChosen a_often a_sorted a_risen a_risenWays m_thrown m_told m_taped m_at m_to m_many m_readMany m_fewest m_size mf (f + 1) a b (by first | assumption | omega | decide +kernel) (by first | assumption | omega | decide +kernel) (by first | assumption | omega | decide +kernel) (by first | assumption | omega | decide +kernel) (by first | assumption | omega | decide +kernel) (by first | assumption | omega | decide +kernel) (by first | assumption | omega | decide +kernel) (by first | assumption | omega | decide +kernel) (by first | assumption | omega | decide +kernel) (by first | assumption | omega | decide +kernel))) (fun r hp => ?_)
            obtain _ := hp
            obtain ⟨r_9, rfl⟩ : ∃ z, z = r := ⟨_, rfl⟩
            refine lv_iadd hx hb dX9_visits_74 ?_
            refine lv_topi (fun z_10 ez_10 => ?_)
            try have tz_10 : z_10.toInt = z_8.toInt + r_9.toInt := by rw [ez_10]; exact my_addI rfl rfl (by omega) (by omega)
            exact my_rpI hx hb hr hlocks (trivial) dX9_visits_75
          ·
            have d41 : z_1.toInt ≤ ((b : Nat) : Int) := my_ngt c41 rfl (nI_toInt (by omega))
            refine lv_iconst (v := 1) hx hb dX9_visits_44 (by decide +kernel) ?_
            exact my_rpI hx hb hr hlocks (trivial) dX9_visits_45
      ·
        have d27 : r_2.toInt = (0 : Int) := my_eq c27 rfl (by decide +kernel)
        refine lv_iconst (v := 0) hx hb dX9_visits_30 (by decide +kernel) ?_
        exact my_rpI hx hb hr hlocks (trivial) dX9_visits_31
set_option maxHeartbeats 4000000 in
set_option maxRecDepth 100000 in
theorem k_X9_visits_4 (l : Launch) (D : va_G) (cI cJ cK : ClassId) (m0 : Nat) (a_row : Nat) (a_tape : Nat) (a_number : Nat) (a_read : Nat) (a_readBits : Nat) (a_stands : Nat) (a_parted : Nat) (a_bitsWere : Nat) (a_stood : Nat) (a_chosen : Nat) (a_bestChosen : Nat) (a_often : Nat) (a_sorted : Nat) (a_risen : Nat) (a_risenWays : Nat) (m_thrown : Int32) (m_told : Nat) (m_taped : Nat) (m_at : Nat) (m_to : Nat) (m_many : Nat) (m_readMany : Nat) (m_fewest : Int32) (m_size : Nat) (mf : Nat → Int32) (f : Nat) (a : Nat) (b : Nat) (hz_m_told : m_told ≤ 64) (hz_m_taped : m_taped ≤ 100) (hz_m_at : m_at ≤ 100) (hz_m_to : m_to ≤ 100) (hz_m_many : m_many ≤ 64) (hz_m_readMany : m_readMany ≤ 64) (hz_m_size : m_size ≤ 64) (hf : f + 4 ≤ 256) (ha : a ≤ 255) (hb9 : b ≤ 255) : cpI l yX9_visits wsX9_visits ({ frames := 4, cells := 0, slots := 0, locals := 240 } : Room) D (tyIJ cI cJ cK) [.ref m0, .int (nI f), .int 4, .int (nI a), .int (nI b)] [(m0, .inr (9, [.int m_thrown, .int (nI m_told), .ref a_row, .ref a_tape, .int (nI m_taped), .int (nI m_at), .int (nI m_to), .int (nI m_many), .ref a_number, .ref a_read, .int (nI m_readMany), .ref a_readBits, .ref a_stands, .ref a_parted, .ref a_bitsWere, .ref a_stood, .ref a_chosen, .ref a_bestChosen, .int m_fewest, .ref a_often, .ref a_sorted, .int (nI m_size), .ref a_risen, .ref a_risenWays])), (a_often, .inl (cI, 512, .inl mf))] (fun (r : Int32) => True) := by
  refine cpI.of (cc := cX9_visits) (maxL := 6) (ret := (some .int)) (by decide) rfl (Nat.le_of_ble_eq_true rfl) ?_
  intro p e s m below meth c ls hx hb hr hts hown hml hlocks hname hK hN hP hl
  have hl : lv_has ls 6 [(0, .ref m0), (1, .int (nI f)), (2, .int 4), (3, .int (nI a)), (4, .int (nI b))] := hl
  have hown : s.vm.findClass RX9 = some m.cls := hown
  refine lv_iload_n hx hb dX9_visits_0 rfl (lv_at hl 1 rfl) ?_
  refine lv_iload_n hx hb dX9_visits_1 rfl (lv_at hl 2 rfl) ?_
  refine lv_iadd hx hb dX9_visits_2 ?_
  refine my_eqi (y := nI (f + 4)) (my_addN f 4) ?_
  refine lv_iconst (v := 1) hx hb dX9_visits_3 (by decide +kernel) ?_
  refine lv_isub hx hb dX9_visits_4 ?_
  refine lv_topi (fun z_1 ez_1 => ?_)
  try have tz_1 : z_1.toInt = ((f + 4 : Nat) : Int) - (1 : Int) := by rw [ez_1]; exact my_subI (nI_toInt (by omega)) (by decide +kernel) (by omega) (by omega)
  refine lv_istore (lv' := [(5, .int z_1), (0, .ref m0), (1, .int (nI f)), (2, .int 4), (3, .int (nI a)), (4, .int (nI b))]) hx hb dX9_visits_5 hl (by decide) rfl (fun ls hl => ?_)
  refine lv_iload_n hx hb dX9_visits_7 rfl (lv_at hl 2 rfl) ?_
  refine lv_iload hx hb dX9_visits_8 (lv_at hl 5 rfl) ?_
  refine lv_icmp_gt (tgt := 30) hx hb dX9_visits_10 (by decide) (fun c10 => ?_) (fun c10 => ?_)
  ·
    have d10 : ((f : Nat) : Int) > ((b : Nat) : Int) := my_gt c10 (nI_toInt (by omega)) (nI_toInt (by omega))
    refine lv_iconst (v := 0) hx hb dX9_visits_30 (by decide +kernel) ?_
    exact my_rpI hx hb hr hlocks (trivial) dX9_visits_31
  ·
    have d10 : ((f : Nat) : Int) ≤ ((b : Nat) : Int) := my_ngt c10 (nI_toInt (by omega)) (nI_toInt (by omega))
    refine lv_iload hx hb dX9_visits_13 (lv_at hl 0 rfl) ?_
    refine lv_iload_n hx hb dX9_visits_15 rfl (lv_at hl 4 rfl) ?_
    refine lv_icmp_lt (tgt := 30) hx hb dX9_visits_16 (by decide) (fun c16 => ?_) (fun c16 => ?_)
    ·
      have d16 : z_1.toInt < ((a : Nat) : Int) := my_lt c16 rfl (nI_toInt (by omega))
      refine lv_iconst (v := 0) hx hb dX9_visits_30 (by decide +kernel) ?_
      exact my_rpI hx hb hr hlocks (trivial) dX9_visits_31
    ·
      have d16 : z_1.toInt ≥ ((a : Nat) : Int) := my_nlt c16 rfl (nI_toInt (by omega))
      refine lv_aload_n hx hb dX9_visits_19 rfl (lv_at hl 1 rfl) ?_
      refine lv_iconst (v := 0) hx hb dX9_visits_20 (by decide +kernel) ?_
      refine lv_iload_n hx hb dX9_visits_21 rfl (lv_at hl 2 rfl) ?_
      refine lv_iload hx hb dX9_visits_22 (lv_at hl 0 rfl) ?_
      refine my_gpI (my_pV (As := [.int 0, .int (nI f), .int z_1]) (rest := []) (ci := 9) ⟨hx, hb, hml, hown, hts⟩ (cwV 3 hts gX9_visits_X9_within rfl rfl rfl (by decide +kernel) ⟨Nat.le_of_ble_eq_true rfl, Nat.le_of_ble_eq_true rfl⟩) hN hK hP [0, 1] rfl 0 rfl rfl rfl rfl hl.1 rfl (Nat.le_of_ble_eq_true rfl) dX9_visits_24 ⟨Nat.le_of_ble_eq_true rfl, Nat.le_of_ble_eq_true rfl⟩  (k0_X9_within l D cI cJ cK m0 a_row a_tape a_number a_read a_readBits a_stands a_parted a_bitsWere a_stood a_chosen a_bestChosen a_often a_sorted a_risen a_risenWays m_thrown m_told m_taped m_at m_to m_many m_readMany m_fewest m_size mf (nI f) ((f : Nat) : Int) (nI_toInt (by omega)) z_1 z_1.toInt rfl (by first | assumption | omega | decide +kernel) (by first | assumption | omega | decide +kernel) (by first | assumption | omega | decide +kernel) (by first | assumption | omega | decide +kernel) (by first | assumption | omega | decide +kernel) (by first | assumption | omega | decide +kernel) (by first | assumption | omega | decide +kernel) (by first | assumption | omega | decide +kernel))) (fun r hp => ?_)
      obtain _ := hp
      obtain ⟨r_2, rfl⟩ : ∃ z, z = r := ⟨_, rfl⟩
      refine lv_if_ne (tgt := 32) hx hb dX9_visits_27 (by decide) (fun c27 => ?_) (fun c27 => ?_)
      ·
        have d27 : r_2.toInt ≠ (0 : Int) := my_ne c27 rfl (by decide +kernel)
        refine lv_iload_n hx hb dX9_visits_32 rfl (lv_at hl 2 rfl) ?_
        refine lv_iload_n hx hb dX9_visits_33 rfl (lv_at hl 4 rfl) ?_
        refine lv_icmp_lt (tgt := 46) hx hb dX9_visits_34 (by decide) (fun c34 => ?_) (fun c34 => ?_)
        ·
          have d34 : ((f : Nat) : Int) < ((a : Nat) : Int) := my_lt c34 (nI_toInt (by omega)) (nI_toInt (by omega))
          refine lv_iconst (v := 1) hx hb dX9_visits_46 (by decide +kernel) ?_
          refine lv_aload_n hx hb dX9_visits_47 rfl (lv_at hl 1 rfl) ?_
          refine lv_iload_n hx hb dX9_visits_48 rfl (lv_at hl 2 rfl) ?_
          refine lv_iload_n hx hb dX9_visits_49 rfl (lv_at hl 3 rfl) ?_
          refine lv_iconst (v := 2) hx hb dX9_visits_50 (by decide +kernel) ?_
          refine lv_idiv hx hb dX9_visits_51 (by decide +kernel) ?_
          refine my_eqi (y := 2) (by decide +kernel) ?_
          refine lv_iload_n hx hb dX9_visits_52 rfl (lv_at hl 4 rfl) ?_
          refine lv_iload hx hb dX9_visits_53 (lv_at hl 5 rfl) ?_
          refine my_gpI (my_pV (As := [.int (nI f), .int 2, .int (nI a), .int (nI b)]) (rest := [.int 1]) (ci := 9) ⟨hx, hb, hml, hown, hts⟩ (cwV 4 hts gX9_visits_X9_visits rfl rfl rfl (by decide +kernel) ⟨Nat.le_of_ble_eq_true rfl, Nat.le_of_ble_eq_true rfl⟩) hN hK hP [0, 1] rfl 0 rfl rfl rfl rfl hl.1 rfl (Nat.le_of_ble_eq_true rfl) dX9_visits_55 ⟨Nat.le_of_ble_eq_true rfl, Nat.le_of_ble_eq_true rfl⟩  (k_X9_visits_2 l D cI cJ cK m0 a_row a_tape a_number a_read a_readBits a_stands a_parted a_bitsWere a_stood a_chosen a_bestChosen a_often a_sorted a_risen a_risenWays m_thrown m_told m_taped m_at m_to m_many m_readMany m_fewest m_size mf f a b (by first | assumption | omega | decide +kernel) (by first | assumption | omega | decide +kernel) (by first | assumption | omega | decide +kernel) (by first | assumption | omega | decide +kernel) (by first | assumption | omega | decide +kernel) (by first | assumption | omega | decide +kernel) (by first | assumption | omega | decide +kernel) (by first | assumption | omega | decide +kernel) (by first | assumption | omega | decide +kernel) (by first | assumption | omega | decide +kernel))) (fun r hp => ?_)
          obtain _ := hp
          obtain ⟨r_3, rfl⟩ : ∃ z, z = r := ⟨_, rfl⟩
          refine lv_iadd hx hb dX9_visits_58 ?_
          refine lv_topi (fun z_4 ez_4 => ?_)
          try have tz_4 : z_4.toInt = (1 : Int) + r_3.toInt := by rw [ez_4]; exact my_addI (by decide +kernel) rfl (by omega) (by omega)
          refine lv_aload_n hx hb dX9_visits_59 rfl (lv_at hl 1 rfl) ?_
          refine lv_iload_n hx hb dX9_visits_60 rfl (lv_at hl 2 rfl) ?_
          refine lv_iload_n hx hb dX9_visits_61 rfl (lv_at hl 3 rfl) ?_
          refine lv_iconst (v := 2) hx hb dX9_visits_62 (by decide +kernel) ?_
          refine lv_idiv hx hb dX9_visits_63 (by decide +kernel) ?_
          refine my_eqi (y := 2) (by decide +kernel) ?_
          refine lv_iadd hx hb dX9_visits_64 ?_
          refine my_eqi (y := nI (f + 2)) (my_addN f 2) ?_
          refine lv_iload_n hx hb dX9_visits_65 rfl (lv_at hl 3 rfl) ?_
          refine lv_iconst (v := 2) hx hb dX9_visits_66 (by decide +kernel) ?_
          refine lv_idiv hx hb dX9_visits_67 (by decide +kernel) ?_
          refine my_eqi (y := 2) (by decide +kernel) ?_
          refine lv_iload_n hx hb dX9_visits_68 rfl (lv_at hl 4 rfl) ?_
          refine lv_iload hx hb dX9_visits_69 (lv_at hl 5 rfl) ?_
          refine my_gpI (my_pV (As := [.int (nI (f + 2)), .int 2, .int (nI a), .int (nI b)]) (rest := [.int z_4]) (ci := 9) ⟨hx, hb, hml, hown, hts⟩ (cwV 4 hts gX9_visits_X9_visits rfl rfl rfl (by decide +kernel) ⟨Nat.le_of_ble_eq_true rfl, Nat.le_of_ble_eq_true rfl⟩) hN hK hP [0, 1] rfl 0 rfl rfl rfl rfl hl.1 rfl (Nat.le_of_ble_eq_true rfl) dX9_visits_71 ⟨Nat.le_of_ble_eq_true rfl, Nat.le_of_ble_eq_true rfl⟩  (k_X9_visits_2 l D cI cJ cK m0 a_row a_tape a_number a_read a_readBits a_stands a_parted a_bitsWere a_stood a_chosen a_bestChosen a_often a_sorted a_risen a_risenWays m_thrown m_told m_taped m_at m_to m_many m_readMany m_fewest m_size mf (f + 2) a b (by first | assumption | omega | decide +kernel) (by first | assumption | omega | decide +kernel) (by first | assumption | omega | decide +kernel) (by first | assumption | omega | decide +kernel) (by first | assumption | omega | decide +kernel) (by first | assumption | omega | decide +kernel) (by first | assumption | omega | decide +kernel) (by first | assumption | omega | decide +kernel) (by first | assumption | omega | decide +kernel) (by first | assumption | omega | decide +kernel))) (fun r hp => ?_)
          obtain _ := hp
          obtain ⟨r_5, rfl⟩ : ∃ z, z = r := ⟨_, rfl⟩
          refine lv_iadd hx hb dX9_visits_74 ?_
          refine lv_topi (fun z_6 ez_6 => ?_)
          try have tz_6 : z_6.toInt = z_4.toInt + r_5.toInt := by rw [ez_6]; exact my_addI rfl rfl (by omega) (by omega)
          exact my_rpI hx hb hr hlocks (trivial) dX9_visits_75
        ·
          have d34 : ((f : Nat) : Int) ≥ ((a : Nat) : Int) := my_nlt c34 (nI_toInt (by omega)) (nI_toInt (by omega))
          refine lv_iload hx hb dX9_visits_37 (lv_at hl 0 rfl) ?_
          refine lv_iload hx hb dX9_visits_39 (lv_at hl 5 rfl) ?_
          refine lv_icmp_gt (tgt := 46) hx hb dX9_visits_41 (by decide) (fun c41 => ?_) (fun c41 => ?_)
          ·
            have d41 : z_1.toInt > ((b : Nat) : Int) := my_gt c41 rfl (nI_toInt (by omega))
            refine lv_iconst (v := 1) hx hb dX9_visits_46 (by decide +kernel) ?_
            refine lv_aload_n hx hb dX9_visits_47 rfl (lv_at hl 1 rfl) ?_
            refine lv_iload_n hx hb dX9_visits_48 rfl (lv_at hl 2 rfl) ?_
            refine lv_iload_n hx hb dX9_visits_49 rfl (lv_at hl 3 rfl) ?_
            refine lv_iconst (v := 2) hx hb dX9_visits_50 (by decide +kernel) ?_
            refine lv_idiv hx hb dX9_visits_51 (by decide +kernel) ?_
            refine my_eqi (y := 2) (by decide +kernel) ?_
            refine lv_iload_n hx hb dX9_visits_52 rfl (lv_at hl 4 rfl) ?_
            refine lv_iload hx hb dX9_visits_53 (lv_at hl 5 rfl) ?_
            refine my_gpI (my_pV (As := [.int (nI f), .int 2, .int (nI a), .int (nI b)]) (rest := [.int 1]) (ci := 9) ⟨hx, hb, hml, hown, hts⟩ (cwV 4 hts gX9_visits_X9_visits rfl rfl rfl (by decide +kernel) ⟨Nat.le_of_ble_eq_true rfl, Nat.le_of_ble_eq_true rfl⟩) hN hK hP [0, 1] rfl 0 rfl rfl rfl rfl hl.1 rfl (Nat.le_of_ble_eq_true rfl) dX9_visits_55 ⟨Nat.le_of_ble_eq_true rfl, Nat.le_of_ble_eq_true rfl⟩  (k_X9_visits_2 l D cI cJ cK m0 a_row a_tape a_number a_read a_readBits a_stands a_parted a_bitsWere a_stood a_chosen a_bestChosen a_often a_sorted a_risen a_risenWays m_thrown m_told m_taped m_at m_to m_many m_readMany m_fewest m_size mf f a b (by first | assumption | omega | decide +kernel) (by first | assumption | omega | decide +kernel) (by first | assumption | omega | decide +kernel) (by first | assumption | omega | decide +kernel) (by first | assumption | omega | decide +kernel) (by first | assumption | omega | decide +kernel) (by first | assumption | omega | decide +kernel) (by first | assumption | omega | decide +kernel) (by first | assumption | omega | decide +kernel) (by first | assumption | omega | decide +kernel))) (fun r hp => ?_)
            obtain _ := hp
            obtain ⟨r_7, rfl⟩ : ∃ z, z = r := ⟨_, rfl⟩
            refine lv_iadd hx hb dX9_visits_58 ?_
            refine lv_topi (fun z_8 ez_8 => ?_)
            try have tz_8 : z_8.toInt = (1 : Int) + r_7.toInt := by rw [ez_8]; exact my_addI (by decide +kernel) rfl (by omega) (by omega)
            refine lv_aload_n hx hb dX9_visits_59 rfl (lv_at hl 1 rfl) ?_
            refine lv_iload_n hx hb dX9_visits_60 rfl (lv_at hl 2 rfl) ?_
            refine lv_iload_n hx hb dX9_visits_61 rfl (lv_at hl 3 rfl) ?_
            refine lv_iconst (v := 2) hx hb dX9_visits_62 (by decide +kernel) ?_
            refine lv_idiv hx hb dX9_visits_63 (by decide +kernel) ?_
            refine my_eqi (y := 2) (by decide +kernel) ?_
            refine lv_iadd hx hb dX9_visits_64 ?_
            refine my_eqi (y := nI (f + 2)) (my_addN f 2) ?_
            refine lv_iload_n hx hb dX9_visits_65 rfl (lv_at hl 3 rfl) ?_
            refine lv_iconst (v := 2) hx hb dX9_visits_66 (by decide +kernel) ?_
            refine lv_idiv hx hb dX9_visits_67 (by decide +kernel) ?_
            refine my_eqi (y := 2) (by decide +kernel) ?_
            refine lv_iload_n hx hb dX9_visits_68 rfl (lv_at hl 4 rfl) ?_
            refine lv_iload hx hb dX9_visits_69 (lv_at hl 5 rfl) ?_
            refine my_gpI (my_pV (As := [.int (nI (f + 2)), .int 2, .int (nI a), .int (nI b)]) (rest := [.int z_8]) (ci := 9) ⟨hx, hb, hml, hown, hts⟩ (cwV 4 hts gX9_visits_X9_visits rfl rfl rfl (by decide +kernel) ⟨Nat.le_of_ble_eq_true rfl, Nat.le_of_ble_eq_true rfl⟩) hN hK hP [0, 1] rfl 0 rfl rfl rfl rfl hl.1 rfl (Nat.le_of_ble_eq_true rfl) dX9_visits_71 ⟨Nat.le_of_ble_eq_true rfl, Nat.le_of_ble_eq_true rfl⟩  (k_X9_visits_2 l D cI cJ cK m0 a_row a_tape a_number a_read a_readBits a_stands a_parted a_bitsWere a_stood a_chosen a_bestChosen a_often a_sorted a_risen a_risenWays m_thrown m_told m_taped m_at m_to m_many m_readMany m_fewest m_size mf (f + 2) a b (by first | assumption | omega | decide +kernel) (by first | assumption | omega | decide +kernel) (by first | assumption | omega | decide +kernel) (by first | assumption | omega | decide +kernel) (by first | assumption | omega | decide +kernel) (by first | assumption | omega | decide +kernel) (by first | assumption | omega | decide +kernel) (by first | assumption | omega | decide +kernel) (by first | assumption | omega | decide +kernel) (by first | assumption | omega | decide +kernel))) (fun r hp => ?_)
            obtain _ := hp
            obtain ⟨r_9, rfl⟩ : ∃ z, z = r := ⟨_, rfl⟩
            refine lv_iadd hx hb dX9_visits_74 ?_
            refine lv_topi (fun z_10 ez_10 => ?_)
            try have tz_10 : z_10.toInt = z_8.toInt + r_9.toInt := by rw [ez_10]; exact my_addI rfl rfl (by omega) (by omega)
            exact my_rpI hx hb hr hlocks (trivial) dX9_visits_75
          ·
            have d41 : z_1.toInt ≤ ((b : Nat) : Int) := my_ngt c41 rfl (nI_toInt (by omega))
            refine lv_iconst (v := 1) hx hb dX9_visits_44 (by decide +kernel) ?_
            exact my_rpI hx hb hr hlocks (trivial) dX9_visits_45
      ·
        have d27 : r_2.toInt = (0 : Int) := my_eq c27 rfl (by decide +kernel)
        refine lv_iconst (v := 0) hx hb dX9_visits_30 (by decide +kernel) ?_
        exact my_rpI hx hb hr hlocks (trivial) dX9_visits_31
set_option maxHeartbeats 4000000 in
set_option maxRecDepth 100000 in
theorem k_X9_visits_8 (l : Launch) (D : va_G) (cI cJ cK : ClassId) (m0 : Nat) (a_row : Nat) (a_tape : Nat) (a_number : Nat) (a_read : Nat) (a_readBits : Nat) (a_stands : Nat) (a_parted : Nat) (a_bitsWere : Nat) (a_stood : Nat) (a_chosen : Nat) (a_bestChosen : Nat) (a_often : Nat) (a_sorted : Nat) (a_risen : Nat) (a_risenWays : Nat) (m_thrown : Int32) (m_told : Nat) (m_taped : Nat) (m_at : Nat) (m_to : Nat) (m_many : Nat) (m_readMany : Nat) (m_fewest : Int32) (m_size : Nat) (mf : Nat → Int32) (f : Nat) (a : Nat) (b : Nat) (hz_m_told : m_told ≤ 64) (hz_m_taped : m_taped ≤ 100) (hz_m_at : m_at ≤ 100) (hz_m_to : m_to ≤ 100) (hz_m_many : m_many ≤ 64) (hz_m_readMany : m_readMany ≤ 64) (hz_m_size : m_size ≤ 64) (hf : f + 8 ≤ 256) (ha : a ≤ 255) (hb9 : b ≤ 255) : cpI l yX9_visits wsX9_visits ({ frames := 5, cells := 0, slots := 0, locals := 300 } : Room) D (tyIJ cI cJ cK) [.ref m0, .int (nI f), .int 8, .int (nI a), .int (nI b)] [(m0, .inr (9, [.int m_thrown, .int (nI m_told), .ref a_row, .ref a_tape, .int (nI m_taped), .int (nI m_at), .int (nI m_to), .int (nI m_many), .ref a_number, .ref a_read, .int (nI m_readMany), .ref a_readBits, .ref a_stands, .ref a_parted, .ref a_bitsWere, .ref a_stood, .ref a_chosen, .ref a_bestChosen, .int m_fewest, .ref a_often, .ref a_sorted, .int (nI m_size), .ref a_risen, .ref a_risenWays])), (a_often, .inl (cI, 512, .inl mf))] (fun (r : Int32) => True) := by
  refine cpI.of (cc := cX9_visits) (maxL := 6) (ret := (some .int)) (by decide) rfl (Nat.le_of_ble_eq_true rfl) ?_
  intro p e s m below meth c ls hx hb hr hts hown hml hlocks hname hK hN hP hl
  have hl : lv_has ls 6 [(0, .ref m0), (1, .int (nI f)), (2, .int 8), (3, .int (nI a)), (4, .int (nI b))] := hl
  have hown : s.vm.findClass RX9 = some m.cls := hown
  refine lv_iload_n hx hb dX9_visits_0 rfl (lv_at hl 1 rfl) ?_
  refine lv_iload_n hx hb dX9_visits_1 rfl (lv_at hl 2 rfl) ?_
  refine lv_iadd hx hb dX9_visits_2 ?_
  refine my_eqi (y := nI (f + 8)) (my_addN f 8) ?_
  refine lv_iconst (v := 1) hx hb dX9_visits_3 (by decide +kernel) ?_
  refine lv_isub hx hb dX9_visits_4 ?_
  refine lv_topi (fun z_1 ez_1 => ?_)
  try have tz_1 : z_1.toInt = ((f + 8 : Nat) : Int) - (1 : Int) := by rw [ez_1]; exact my_subI (nI_toInt (by omega)) (by decide +kernel) (by omega) (by omega)
  refine lv_istore (lv' := [(5, .int z_1), (0, .ref m0), (1, .int (nI f)), (2, .int 8), (3, .int (nI a)), (4, .int (nI b))]) hx hb dX9_visits_5 hl (by decide) rfl (fun ls hl => ?_)
  refine lv_iload_n hx hb dX9_visits_7 rfl (lv_at hl 2 rfl) ?_
  refine lv_iload hx hb dX9_visits_8 (lv_at hl 5 rfl) ?_
  refine lv_icmp_gt (tgt := 30) hx hb dX9_visits_10 (by decide) (fun c10 => ?_) (fun c10 => ?_)
  ·
    have d10 : ((f : Nat) : Int) > ((b : Nat) : Int) := my_gt c10 (nI_toInt (by omega)) (nI_toInt (by omega))
    refine lv_iconst (v := 0) hx hb dX9_visits_30 (by decide +kernel) ?_
    exact my_rpI hx hb hr hlocks (trivial) dX9_visits_31
  ·
    have d10 : ((f : Nat) : Int) ≤ ((b : Nat) : Int) := my_ngt c10 (nI_toInt (by omega)) (nI_toInt (by omega))
    refine lv_iload hx hb dX9_visits_13 (lv_at hl 0 rfl) ?_
    refine lv_iload_n hx hb dX9_visits_15 rfl (lv_at hl 4 rfl) ?_
    refine lv_icmp_lt (tgt := 30) hx hb dX9_visits_16 (by decide) (fun c16 => ?_) (fun c16 => ?_)
    ·
      have d16 : z_1.toInt < ((a : Nat) : Int) := my_lt c16 rfl (nI_toInt (by omega))
      refine lv_iconst (v := 0) hx hb dX9_visits_30 (by decide +kernel) ?_
      exact my_rpI hx hb hr hlocks (trivial) dX9_visits_31
    ·
      have d16 : z_1.toInt ≥ ((a : Nat) : Int) := my_nlt c16 rfl (nI_toInt (by omega))
      refine lv_aload_n hx hb dX9_visits_19 rfl (lv_at hl 1 rfl) ?_
      refine lv_iconst (v := 0) hx hb dX9_visits_20 (by decide +kernel) ?_
      refine lv_iload_n hx hb dX9_visits_21 rfl (lv_at hl 2 rfl) ?_
      refine lv_iload hx hb dX9_visits_22 (lv_at hl 0 rfl) ?_
      refine my_gpI (my_pV (As := [.int 0, .int (nI f), .int z_1]) (rest := []) (ci := 9) ⟨hx, hb, hml, hown, hts⟩ (cwV 3 hts gX9_visits_X9_within rfl rfl rfl (by decide +kernel) ⟨Nat.le_of_ble_eq_true rfl, Nat.le_of_ble_eq_true rfl⟩) hN hK hP [0, 1] rfl 0 rfl rfl rfl rfl hl.1 rfl (Nat.le_of_ble_eq_true rfl) dX9_visits_24 ⟨Nat.le_of_ble_eq_true rfl, Nat.le_of_ble_eq_true rfl⟩  (k0_X9_within l D cI cJ cK m0 a_row a_tape a_number a_read a_readBits a_stands a_parted a_bitsWere a_stood a_chosen a_bestChosen a_often a_sorted a_risen a_risenWays m_thrown m_told m_taped m_at m_to m_many m_readMany m_fewest m_size mf (nI f) ((f : Nat) : Int) (nI_toInt (by omega)) z_1 z_1.toInt rfl (by first | assumption | omega | decide +kernel) (by first | assumption | omega | decide +kernel) (by first | assumption | omega | decide +kernel) (by first | assumption | omega | decide +kernel) (by first | assumption | omega | decide +kernel) (by first | assumption | omega | decide +kernel) (by first | assumption | omega | decide +kernel) (by first | assumption | omega | decide +kernel))) (fun r hp => ?_)
      obtain _ := hp
      obtain ⟨r_2, rfl⟩ : ∃ z, z = r := ⟨_, rfl⟩
      refine lv_if_ne (tgt := 32) hx hb dX9_visits_27 (by decide) (fun c27 => ?_) (fun c27 => ?_)
      ·
        have d27 : r_2.toInt ≠ (0 : Int) := my_ne c27 rfl (by decide +kernel)
        refine lv_iload_n hx hb dX9_visits_32 rfl (lv_at hl 2 rfl) ?_
        refine lv_iload_n hx hb dX9_visits_33 rfl (lv_at hl 4 rfl) ?_
        refine lv_icmp_lt (tgt := 46) hx hb dX9_visits_34 (by decide) (fun c34 => ?_) (fun c34 => ?_)
        ·
          have d34 : ((f : Nat) : Int) < ((a : Nat) : Int) := my_lt c34 (nI_toInt (by omega)) (nI_toInt (by omega))
          refine lv_iconst (v := 1) hx hb dX9_visits_46 (by decide +kernel) ?_
          refine lv_aload_n hx hb dX9_visits_47 rfl (lv_at hl 1 rfl) ?_
          refine lv_iload_n hx hb dX9_visits_48 rfl (lv_at hl 2 rfl) ?_
          refine lv_iload_n hx hb dX9_visits_49 rfl (lv_at hl 3 rfl) ?_
          refine lv_iconst (v := 2) hx hb dX9_visits_50 (by decide +kernel) ?_
          refine lv_idiv hx hb dX9_visits_51 (by decide +kernel) ?_
          refine my_eqi (y := 4) (by decide +kernel) ?_
          refine lv_iload_n hx hb dX9_visits_52 rfl (lv_at hl 4 rfl) ?_
          refine lv_iload hx hb dX9_visits_53 (lv_at hl 5 rfl) ?_
          refine my_gpI (my_pV (As := [.int (nI f), .int 4, .int (nI a), .int (nI b)]) (rest := [.int 1]) (ci := 9) ⟨hx, hb, hml, hown, hts⟩ (cwV 4 hts gX9_visits_X9_visits rfl rfl rfl (by decide +kernel) ⟨Nat.le_of_ble_eq_true rfl, Nat.le_of_ble_eq_true rfl⟩) hN hK hP [0, 1] rfl 0 rfl rfl rfl rfl hl.1 rfl (Nat.le_of_ble_eq_true rfl) dX9_visits_55 ⟨Nat.le_of_ble_eq_true rfl, Nat.le_of_ble_eq_true rfl⟩  (k_X9_visits_4 l D cI cJ cK m0 a_row a_tape a_number a_read a_readBits a_stands a_parted a_bitsWere a_stood a_chosen a_bestChosen a_often a_sorted a_risen a_risenWays m_thrown m_told m_taped m_at m_to m_many m_readMany m_fewest m_size mf f a b (by first | assumption | omega | decide +kernel) (by first | assumption | omega | decide +kernel) (by first | assumption | omega | decide +kernel) (by first | assumption | omega | decide +kernel) (by first | assumption | omega | decide +kernel) (by first | assumption | omega | decide +kernel) (by first | assumption | omega | decide +kernel) (by first | assumption | omega | decide +kernel) (by first | assumption | omega | decide +kernel) (by first | assumption | omega | decide +kernel))) (fun r hp => ?_)
          obtain _ := hp
          obtain ⟨r_3, rfl⟩ : ∃ z, z = r := ⟨_, rfl⟩
          refine lv_iadd hx hb dX9_visits_58 ?_
          refine lv_topi (fun z_4 ez_4 => ?_)
          try have tz_4 : z_4.toInt = (1 : Int) + r_3.toInt := by rw [ez_4]; exact my_addI (by decide +kernel) rfl (by omega) (by omega)
          refine lv_aload_n hx hb dX9_visits_59 rfl (lv_at hl 1 rfl) ?_
          refine lv_iload_n hx hb dX9_visits_60 rfl (lv_at hl 2 rfl) ?_
          refine lv_iload_n hx hb dX9_visits_61 rfl (lv_at hl 3 rfl) ?_
          refine lv_iconst (v := 2) hx hb dX9_visits_62 (by decide +kernel) ?_
          refine lv_idiv hx hb dX9_visits_63 (by decide +kernel) ?_
          refine my_eqi (y := 4) (by decide +kernel) ?_
          refine lv_iadd hx hb dX9_visits_64 ?_
          refine my_eqi (y := nI (f + 4)) (my_addN f 4) ?_
          refine lv_iload_n hx hb dX9_visits_65 rfl (lv_at hl 3 rfl) ?_
          refine lv_iconst (v := 2) hx hb dX9_visits_66 (by decide +kernel) ?_
          refine lv_idiv hx hb dX9_visits_67 (by decide +kernel) ?_
          refine my_eqi (y := 4) (by decide +kernel) ?_
          refine lv_iload_n hx hb dX9_visits_68 rfl (lv_at hl 4 rfl) ?_
          refine lv_iload hx hb dX9_visits_69 (lv_at hl 5 rfl) ?_
          refine my_gpI (my_pV (As := [.int (nI (f + 4)), .int 4, .int (nI a), .int (nI b)]) (rest := [.int z_4]) (ci := 9) ⟨hx, hb, hml, hown, hts⟩ (cwV 4 hts gX9_visits_X9_visits rfl rfl rfl (by decide +kernel) ⟨Nat.le_of_ble_eq_true rfl, Nat.le_of_ble_eq_true rfl⟩) hN hK hP [0, 1] rfl 0 rfl rfl rfl rfl hl.1 rfl (Nat.le_of_ble_eq_true rfl) dX9_visits_71 ⟨Nat.le_of_ble_eq_true rfl, Nat.le_of_ble_eq_true rfl⟩  (k_X9_visits_4 l D cI cJ cK m0 a_row a_tape a_number a_read a_readBits a_stands a_parted a_bitsWere a_stood a_chosen a_bestChosen a_often a_sorted a_risen a_risenWays m_thrown m_told m_taped m_at m_to m_many m_readMany m_fewest m_size mf (f + 4) a b (by first | assumption | omega | decide +kernel) (by first | assumption | omega | decide +kernel) (by first | assumption | omega | decide +kernel) (by first | assumption | omega | decide +kernel) (by first | assumption | omega | decide +kernel) (by first | assumption | omega | decide +kernel) (by first | assumption | omega | decide +kernel) (by first | assumption | omega | decide +kernel) (by first | assumption | omega | decide +kernel) (by first | assumption | omega | decide +kernel))) (fun r hp => ?_)
          obtain _ := hp
          obtain ⟨r_5, rfl⟩ : ∃ z, z = r := ⟨_, rfl⟩
          refine lv_iadd hx hb dX9_visits_74 ?_
          refine lv_topi (fun z_6 ez_6 => ?_)
          try have tz_6 : z_6.toInt = z_4.toInt + r_5.toInt := by rw [ez_6]; exact my_addI rfl rfl (by omega) (by omega)
          exact my_rpI hx hb hr hlocks (trivial) dX9_visits_75
        ·
          have d34 : ((f : Nat) : Int) ≥ ((a : Nat) : Int) := my_nlt c34 (nI_toInt (by omega)) (nI_toInt (by omega))
          refine lv_iload hx hb dX9_visits_37 (lv_at hl 0 rfl) ?_
          refine lv_iload hx hb dX9_visits_39 (lv_at hl 5 rfl) ?_
          refine lv_icmp_gt (tgt := 46) hx hb dX9_visits_41 (by decide) (fun c41 => ?_) (fun c41 => ?_)
          ·
            have d41 : z_1.toInt > ((b : Nat) : Int) := my_gt c41 rfl (nI_toInt (by omega))
            refine lv_iconst (v := 1) hx hb dX9_visits_46 (by decide +kernel) ?_
            refine lv_aload_n hx hb dX9_visits_47 rfl (lv_at hl 1 rfl) ?_
            refine lv_iload_n hx hb dX9_visits_48 rfl (lv_at hl 2 rfl) ?_
            refine lv_iload_n hx hb dX9_visits_49 rfl (lv_at hl 3 rfl) ?_
            refine lv_iconst (v := 2) hx hb dX9_visits_50 (by decide +kernel) ?_
            refine lv_idiv hx hb dX9_visits_51 (by decide +kernel) ?_
            refine my_eqi (y := 4) (by decide +kernel) ?_
            refine lv_iload_n hx hb dX9_visits_52 rfl (lv_at hl 4 rfl) ?_
            refine lv_iload hx hb dX9_visits_53 (lv_at hl 5 rfl) ?_
            refine my_gpI (my_pV (As := [.int (nI f), .int 4, .int (nI a), .int (nI b)]) (rest := [.int 1]) (ci := 9) ⟨hx, hb, hml, hown, hts⟩ (cwV 4 hts gX9_visits_X9_visits rfl rfl rfl (by decide +kernel) ⟨Nat.le_of_ble_eq_true rfl, Nat.le_of_ble_eq_true rfl⟩) hN hK hP [0, 1] rfl 0 rfl rfl rfl rfl hl.1 rfl (Nat.le_of_ble_eq_true rfl) dX9_visits_55 ⟨Nat.le_of_ble_eq_true rfl, Nat.le_of_ble_eq_true rfl⟩  (k_X9_visits_4 l D cI cJ cK m0 a_row a_tape a_number a_read a_readBits a_stands a_parted a_bitsWere a_stood a_chosen a_bestChosen a_often a_sorted a_risen a_risenWays m_thrown m_told m_taped m_at m_to m_many m_readMany m_fewest m_size mf f a b (by first | assumption | omega | decide +kernel) (by first | assumption | omega | decide +kernel) (by first | assumption | omega | decide +kernel) (by first | assumption | omega | decide +kernel) (by first | assumption | omega | decide +kernel) (by first | assumption | omega | decide +kernel) (by first | assumption | omega | decide +kernel) (by first | assumption | omega | decide +kernel) (by first | assumption | omega | decide +kernel) (by first | assumption | omega | decide +kernel))) (fun r hp => ?_)
            obtain _ := hp
            obtain ⟨r_7, rfl⟩ : ∃ z, z = r := ⟨_, rfl⟩
            refine lv_iadd hx hb dX9_visits_58 ?_
            refine lv_topi (fun z_8 ez_8 => ?_)
            try have tz_8 : z_8.toInt = (1 : Int) + r_7.toInt := by rw [ez_8]; exact my_addI (by decide +kernel) rfl (by omega) (by omega)
            refine lv_aload_n hx hb dX9_visits_59 rfl (lv_at hl 1 rfl) ?_
            refine lv_iload_n hx hb dX9_visits_60 rfl (lv_at hl 2 rfl) ?_
            refine lv_iload_n hx hb dX9_visits_61 rfl (lv_at hl 3 rfl) ?_
            refine lv_iconst (v := 2) hx hb dX9_visits_62 (by decide +kernel) ?_
            refine lv_idiv hx hb dX9_visits_63 (by decide +kernel) ?_
            refine my_eqi (y := 4) (by decide +kernel) ?_
            refine lv_iadd hx hb dX9_visits_64 ?_
            refine my_eqi (y := nI (f + 4)) (my_addN f 4) ?_
            refine lv_iload_n hx hb dX9_visits_65 rfl (lv_at hl 3 rfl) ?_
            refine lv_iconst (v := 2) hx hb dX9_visits_66 (by decide +kernel) ?_
            refine lv_idiv hx hb dX9_visits_67 (by decide +kernel) ?_
            refine my_eqi (y := 4) (by decide +kernel) ?_
            refine lv_iload_n hx hb dX9_visits_68 rfl (lv_at hl 4 rfl) ?_
            refine lv_iload hx hb dX9_visits_69 (lv_at hl 5 rfl) ?_
            refine my_gpI (my_pV (As := [.int (nI (f + 4)), .int 4, .int (nI a), .int (nI b)]) (rest := [.int z_8]) (ci := 9) ⟨hx, hb, hml, hown, hts⟩ (cwV 4 hts gX9_visits_X9_visits rfl rfl rfl (by decide +kernel) ⟨Nat.le_of_ble_eq_true rfl, Nat.le_of_ble_eq_true rfl⟩) hN hK hP [0, 1] rfl 0 rfl rfl rfl rfl hl.1 rfl (Nat.le_of_ble_eq_true rfl) dX9_visits_71 ⟨Nat.le_of_ble_eq_true rfl, Nat.le_of_ble_eq_true rfl⟩  (k_X9_visits_4 l D cI cJ cK m0 a_row a_tape a_number a_read a_readBits a_stands a_parted a_bitsWere a_stood a_chosen a_bestChosen a_often a_sorted a_risen a_risenWays m_thrown m_told m_taped m_at m_to m_many m_readMany m_fewest m_size mf (f + 4) a b (by first | assumption | omega | decide +kernel) (by first | assumption | omega | decide +kernel) (by first | assumption | omega | decide +kernel) (by first | assumption | omega | decide +kernel) (by first | assumption | omega | decide +kernel) (by first | assumption | omega | decide +kernel) (by first | assumption | omega | decide +kernel) (by first | assumption | omega | decide +kernel) (by first | assumption | omega | decide +kernel) (by first | assumption | omega | decide +kernel))) (fun r hp => ?_)
            obtain _ := hp
            obtain ⟨r_9, rfl⟩ : ∃ z, z = r := ⟨_, rfl⟩
            refine lv_iadd hx hb dX9_visits_74 ?_
            refine lv_topi (fun z_10 ez_10 => ?_)
            try have tz_10 : z_10.toInt = z_8.toInt + r_9.toInt := by rw [ez_10]; exact my_addI rfl rfl (by omega) (by omega)
            exact my_rpI hx hb hr hlocks (trivial) dX9_visits_75
          ·
            have d41 : z_1.toInt ≤ ((b : Nat) : Int) := my_ngt c41 rfl (nI_toInt (by omega))
            refine lv_iconst (v := 1) hx hb dX9_visits_44 (by decide +kernel) ?_
            exact my_rpI hx hb hr hlocks (trivial) dX9_visits_45
      ·
        have d27 : r_2.toInt = (0 : Int) := my_eq c27 rfl (by decide +kernel)
        refine lv_iconst (v := 0) hx hb dX9_visits_30 (by decide +kernel) ?_
        exact my_rpI hx hb hr hlocks (trivial) dX9_visits_31
set_option maxHeartbeats 4000000 in
set_option maxRecDepth 100000 in
theorem k_X9_visits_16 (l : Launch) (D : va_G) (cI cJ cK : ClassId) (m0 : Nat) (a_row : Nat) (a_tape : Nat) (a_number : Nat) (a_read : Nat) (a_readBits : Nat) (a_stands : Nat) (a_parted : Nat) (a_bitsWere : Nat) (a_stood : Nat) (a_chosen : Nat) (a_bestChosen : Nat) (a_often : Nat) (a_sorted : Nat) (a_risen : Nat) (a_risenWays : Nat) (m_thrown : Int32) (m_told : Nat) (m_taped : Nat) (m_at : Nat) (m_to : Nat) (m_many : Nat) (m_readMany : Nat) (m_fewest : Int32) (m_size : Nat) (mf : Nat → Int32) (f : Nat) (a : Nat) (b : Nat) (hz_m_told : m_told ≤ 64) (hz_m_taped : m_taped ≤ 100) (hz_m_at : m_at ≤ 100) (hz_m_to : m_to ≤ 100) (hz_m_many : m_many ≤ 64) (hz_m_readMany : m_readMany ≤ 64) (hz_m_size : m_size ≤ 64) (hf : f + 16 ≤ 256) (ha : a ≤ 255) (hb9 : b ≤ 255) : cpI l yX9_visits wsX9_visits ({ frames := 6, cells := 0, slots := 0, locals := 360 } : Room) D (tyIJ cI cJ cK) [.ref m0, .int (nI f), .int 16, .int (nI a), .int (nI b)] [(m0, .inr (9, [.int m_thrown, .int (nI m_told), .ref a_row, .ref a_tape, .int (nI m_taped), .int (nI m_at), .int (nI m_to), .int (nI m_many), .ref a_number, .ref a_read, .int (nI m_readMany), .ref a_readBits, .ref a_stands, .ref a_parted, .ref a_bitsWere, .ref a_stood, .ref a_chosen, .ref a_bestChosen, .int m_fewest, .ref a_often, .ref a_sorted, .int (nI m_size), .ref a_risen, .ref a_risenWays])), (a_often, .inl (cI, 512, .inl mf))] (fun (r : Int32) => True) := by
  refine cpI.of (cc := cX9_visits) (maxL := 6) (ret := (some .int)) (by decide) rfl (Nat.le_of_ble_eq_true rfl) ?_
  intro p e s m below meth c ls hx hb hr hts hown hml hlocks hname hK hN hP hl
  have hl : lv_has ls 6 [(0, .ref m0), (1, .int (nI f)), (2, .int 16), (3, .int (nI a)), (4, .int (nI b))] := hl
  have hown : s.vm.findClass RX9 = some m.cls := hown
  refine lv_iload_n hx hb dX9_visits_0 rfl (lv_at hl 1 rfl) ?_
  refine lv_iload_n hx hb dX9_visits_1 rfl (lv_at hl 2 rfl) ?_
  refine lv_iadd hx hb dX9_visits_2 ?_
  refine my_eqi (y := nI (f + 16)) (my_addN f 16) ?_
  refine lv_iconst (v := 1) hx hb dX9_visits_3 (by decide +kernel) ?_
  refine lv_isub hx hb dX9_visits_4 ?_
  refine lv_topi (fun z_1 ez_1 => ?_)
  try have tz_1 : z_1.toInt = ((f + 16 : Nat) : Int) - (1 : Int) := by rw [ez_1]; exact my_subI (nI_toInt (by omega)) (by decide +kernel) (by omega) (by omega)
  refine lv_istore (lv' := [(5, .int z_1), (0, .ref m0), (1, .int (nI f)), (2, .int 16), (3, .int (nI a)), (4, .int (nI b))]) hx hb dX9_visits_5 hl (by decide) rfl (fun ls hl => ?_)
  refine lv_iload_n hx hb dX9_visits_7 rfl (lv_at hl 2 rfl) ?_
  refine lv_iload hx hb dX9_visits_8 (lv_at hl 5 rfl) ?_
  refine lv_icmp_gt (tgt := 30) hx hb dX9_visits_10 (by decide) (fun c10 => ?_) (fun c10 => ?_)
  ·
    have d10 : ((f : Nat) : Int) > ((b : Nat) : Int) := my_gt c10 (nI_toInt (by omega)) (nI_toInt (by omega))
    refine lv_iconst (v := 0) hx hb dX9_visits_30 (by decide +kernel) ?_
    exact my_rpI hx hb hr hlocks (trivial) dX9_visits_31
  ·
    have d10 : ((f : Nat) : Int) ≤ ((b : Nat) : Int) := my_ngt c10 (nI_toInt (by omega)) (nI_toInt (by omega))
    refine lv_iload hx hb dX9_visits_13 (lv_at hl 0 rfl) ?_
    refine lv_iload_n hx hb dX9_visits_15 rfl (lv_at hl 4 rfl) ?_
    refine lv_icmp_lt (tgt := 30) hx hb dX9_visits_16 (by decide) (fun c16 => ?_) (fun c16 => ?_)
    ·
      have d16 : z_1.toInt < ((a : Nat) : Int) := my_lt c16 rfl (nI_toInt (by omega))
      refine lv_iconst (v := 0) hx hb dX9_visits_30 (by decide +kernel) ?_
      exact my_rpI hx hb hr hlocks (trivial) dX9_visits_31
    ·
      have d16 : z_1.toInt ≥ ((a : Nat) : Int) := my_nlt c16 rfl (nI_toInt (by omega))
      refine lv_aload_n hx hb dX9_visits_19 rfl (lv_at hl 1 rfl) ?_
      refine lv_iconst (v := 0) hx hb dX9_visits_20 (by decide +kernel) ?_
      refine lv_iload_n hx hb dX9_visits_21 rfl (lv_at hl 2 rfl) ?_
      refine lv_iload hx hb dX9_visits_22 (lv_at hl 0 rfl) ?_
      refine my_gpI (my_pV (As := [.int 0, .int (nI f), .int z_1]) (rest := []) (ci := 9) ⟨hx, hb, hml, hown, hts⟩ (cwV 3 hts gX9_visits_X9_within rfl rfl rfl (by decide +kernel) ⟨Nat.le_of_ble_eq_true rfl, Nat.le_of_ble_eq_true rfl⟩) hN hK hP [0, 1] rfl 0 rfl rfl rfl rfl hl.1 rfl (Nat.le_of_ble_eq_true rfl) dX9_visits_24 ⟨Nat.le_of_ble_eq_true rfl, Nat.le_of_ble_eq_true rfl⟩  (k0_X9_within l D cI cJ cK m0 a_row a_tape a_number a_read a_readBits a_stands a_parted a_bitsWere a_stood a_chosen a_bestChosen a_often a_sorted a_risen a_risenWays m_thrown m_told m_taped m_at m_to m_many m_readMany m_fewest m_size mf (nI f) ((f : Nat) : Int) (nI_toInt (by omega)) z_1 z_1.toInt rfl (by first | assumption | omega | decide +kernel) (by first | assumption | omega | decide +kernel) (by first | assumption | omega | decide +kernel) (by first | assumption | omega | decide +kernel) (by first | assumption | omega | decide +kernel) (by first | assumption | omega | decide +kernel) (by first | assumption | omega | decide +kernel) (by first | assumption | omega | decide +kernel))) (fun r hp => ?_)
      obtain _ := hp
      obtain ⟨r_2, rfl⟩ : ∃ z, z = r := ⟨_, rfl⟩
      refine lv_if_ne (tgt := 32) hx hb dX9_visits_27 (by decide) (fun c27 => ?_) (fun c27 => ?_)
      ·
        have d27 : r_2.toInt ≠ (0 : Int) := my_ne c27 rfl (by decide +kernel)
        refine lv_iload_n hx hb dX9_visits_32 rfl (lv_at hl 2 rfl) ?_
        refine lv_iload_n hx hb dX9_visits_33 rfl (lv_at hl 4 rfl) ?_
        refine lv_icmp_lt (tgt := 46) hx hb dX9_visits_34 (by decide) (fun c34 => ?_) (fun c34 => ?_)
        ·
          have d34 : ((f : Nat) : Int) < ((a : Nat) : Int) := my_lt c34 (nI_toInt (by omega)) (nI_toInt (by omega))
          refine lv_iconst (v := 1) hx hb dX9_visits_46 (by decide +kernel) ?_
          refine lv_aload_n hx hb dX9_visits_47 rfl (lv_at hl 1 rfl) ?_
          refine lv_iload_n hx hb dX9_visits_48 rfl (lv_at hl 2 rfl) ?_
          refine lv_iload_n hx hb dX9_visits_49 rfl (lv_at hl 3 rfl) ?_
          refine lv_iconst (v := 2) hx hb dX9_visits_50 (by decide +kernel) ?_
          refine lv_idiv hx hb dX9_visits_51 (by decide +kernel) ?_
          refine my_eqi (y := 8) (by decide +kernel) ?_
          refine lv_iload_n hx hb dX9_visits_52 rfl (lv_at hl 4 rfl) ?_
          refine lv_iload hx hb dX9_visits_53 (lv_at hl 5 rfl) ?_
          refine my_gpI (my_pV (As := [.int (nI f), .int 8, .int (nI a), .int (nI b)]) (rest := [.int 1]) (ci := 9) ⟨hx, hb, hml, hown, hts⟩ (cwV 4 hts gX9_visits_X9_visits rfl rfl rfl (by decide +kernel) ⟨Nat.le_of_ble_eq_true rfl, Nat.le_of_ble_eq_true rfl⟩) hN hK hP [0, 1] rfl 0 rfl rfl rfl rfl hl.1 rfl (Nat.le_of_ble_eq_true rfl) dX9_visits_55 ⟨Nat.le_of_ble_eq_true rfl, Nat.le_of_ble_eq_true rfl⟩  (k_X9_visits_8 l D cI cJ cK m0 a_row a_tape a_number a_read a_readBits a_stands a_parted a_bitsWere a_stood a_chosen a_bestChosen a_often a_sorted a_risen a_risenWays m_thrown m_told m_taped m_at m_to m_many m_readMany m_fewest m_size mf f a b (by first | assumption | omega | decide +kernel) (by first | assumption | omega | decide +kernel) (by first | assumption | omega | decide +kernel) (by first | assumption | omega | decide +kernel) (by first | assumption | omega | decide +kernel) (by first | assumption | omega | decide +kernel) (by first | assumption | omega | decide +kernel) (by first | assumption | omega | decide +kernel) (by first | assumption | omega | decide +kernel) (by first | assumption | omega | decide +kernel))) (fun r hp => ?_)
          obtain _ := hp
          obtain ⟨r_3, rfl⟩ : ∃ z, z = r := ⟨_, rfl⟩
          refine lv_iadd hx hb dX9_visits_58 ?_
          refine lv_topi (fun z_4 ez_4 => ?_)
          try have tz_4 : z_4.toInt = (1 : Int) + r_3.toInt := by rw [ez_4]; exact my_addI (by decide +kernel) rfl (by omega) (by omega)
          refine lv_aload_n hx hb dX9_visits_59 rfl (lv_at hl 1 rfl) ?_
          refine lv_iload_n hx hb dX9_visits_60 rfl (lv_at hl 2 rfl) ?_
          refine lv_iload_n hx hb dX9_visits_61 rfl (lv_at hl 3 rfl) ?_
          refine lv_iconst (v := 2) hx hb dX9_visits_62 (by decide +kernel) ?_
          refine lv_idiv hx hb dX9_visits_63 (by decide +kernel) ?_
          refine my_eqi (y := 8) (by decide +kernel) ?_
          refine lv_iadd hx hb dX9_visits_64 ?_
          refine my_eqi (y := nI (f + 8)) (my_addN f 8) ?_
          refine lv_iload_n hx hb dX9_visits_65 rfl (lv_at hl 3 rfl) ?_
          refine lv_iconst (v := 2) hx hb dX9_visits_66 (by decide +kernel) ?_
          refine lv_idiv hx hb dX9_visits_67 (by decide +kernel) ?_
          refine my_eqi (y := 8) (by decide +kernel) ?_
          refine lv_iload_n hx hb dX9_visits_68 rfl (lv_at hl 4 rfl) ?_
          refine lv_iload hx hb dX9_visits_69 (lv_at hl 5 rfl) ?_
          refine my_gpI (my_pV (As := [.int (nI (f + 8)), .int 8, .int (nI a), .int (nI b)]) (rest := [.int z_4]) (ci := 9) ⟨hx, hb, hml, hown, hts⟩ (cwV 4 hts gX9_visits_X9_visits rfl rfl rfl (by decide +kernel) ⟨Nat.le_of_ble_eq_true rfl, Nat.le_of_ble_eq_true rfl⟩) hN hK hP [0, 1] rfl 0 rfl rfl rfl rfl hl.1 rfl (Nat.le_of_ble_eq_true rfl) dX9_visits_71 ⟨Nat.le_of_ble_eq_true rfl, Nat.le_of_ble_eq_true rfl⟩  (k_X9_visits_8 l D cI cJ cK m0 a_row a_tape a_number a_read a_readBits a_stands a_parted a_bitsWere a_stood a_chosen a_bestChosen a_often a_sorted a_risen a_risenWays m_thrown m_told m_taped m_at m_to m_many m_readMany m_fewest m_size mf (f + 8) a b (by first | assumption | omega | decide +kernel) (by first | assumption | omega | decide +kernel) (by first | assumption | omega | decide +kernel) (by first | assumption | omega | decide +kernel) (by first | assumption | omega | decide +kernel) (by first | assumption | omega | decide +kernel) (by first | assumption | omega | decide +kernel) (by first | assumption | omega | decide +kernel) (by first | assumption | omega | decide +kernel) (by first | assumption | omega | decide +kernel))) (fun r hp => ?_)
          obtain _ := hp
          obtain ⟨r_5, rfl⟩ : ∃ z, z = r := ⟨_, rfl⟩
          refine lv_iadd hx hb dX9_visits_74 ?_
          refine lv_topi (fun z_6 ez_6 => ?_)
          try have tz_6 : z_6.toInt = z_4.toInt + r_5.toInt := by rw [ez_6]; exact my_addI rfl rfl (by omega) (by omega)
          exact my_rpI hx hb hr hlocks (trivial) dX9_visits_75
        ·
          have d34 : ((f : Nat) : Int) ≥ ((a : Nat) : Int) := my_nlt c34 (nI_toInt (by omega)) (nI_toInt (by omega))
          refine lv_iload hx hb dX9_visits_37 (lv_at hl 0 rfl) ?_
          refine lv_iload hx hb dX9_visits_39 (lv_at hl 5 rfl) ?_
          refine lv_icmp_gt (tgt := 46) hx hb dX9_visits_41 (by decide) (fun c41 => ?_) (fun c41 => ?_)
          ·
            have d41 : z_1.toInt > ((b : Nat) : Int) := my_gt c41 rfl (nI_toInt (by omega))
            refine lv_iconst (v := 1) hx hb dX9_visits_46 (by decide +kernel) ?_
            refine lv_aload_n hx hb dX9_visits_47 rfl (lv_at hl 1 rfl) ?_
            refine lv_iload_n hx hb dX9_visits_48 rfl (lv_at hl 2 rfl) ?_
            refine lv_iload_n hx hb dX9_visits_49 rfl (lv_at hl 3 rfl) ?_
            refine lv_iconst (v := 2) hx hb dX9_visits_50 (by decide +kernel) ?_
            refine lv_idiv hx hb dX9_visits_51 (by decide +kernel) ?_
            refine my_eqi (y := 8) (by decide +kernel) ?_
            refine lv_iload_n hx hb dX9_visits_52 rfl (lv_at hl 4 rfl) ?_
            refine lv_iload hx hb dX9_visits_53 (lv_at hl 5 rfl) ?_
            refine my_gpI (my_pV (As := [.int (nI f), .int 8, .int (nI a), .int (nI b)]) (rest := [.int 1]) (ci := 9) ⟨hx, hb, hml, hown, hts⟩ (cwV 4 hts gX9_visits_X9_visits rfl rfl rfl (by decide +kernel) ⟨Nat.le_of_ble_eq_true rfl, Nat.le_of_ble_eq_true rfl⟩) hN hK hP [0, 1] rfl 0 rfl rfl rfl rfl hl.1 rfl (Nat.le_of_ble_eq_true rfl) dX9_visits_55 ⟨Nat.le_of_ble_eq_true rfl, Nat.le_of_ble_eq_true rfl⟩  (k_X9_visits_8 l D cI cJ cK m0 a_row a_tape a_number a_read a_readBits a_stands a_parted a_bitsWere a_stood a_chosen a_bestChosen a_often a_sorted a_risen a_risenWays m_thrown m_told m_taped m_at m_to m_many m_readMany m_fewest m_size mf f a b (by first | assumption | omega | decide +kernel) (by first | assumption | omega | decide +kernel) (by first | assumption | omega | decide +kernel) (by first | assumption | omega | decide +kernel) (by first | assumption | omega | decide +kernel) (by first | assumption | omega | decide +kernel) (by first | assumption | omega | decide +kernel) (by first | assumption | omega | decide +kernel) (by first | assumption | omega | decide +kernel) (by first | assumption | omega | decide +kernel))) (fun r hp => ?_)
            obtain _ := hp
            obtain ⟨r_7, rfl⟩ : ∃ z, z = r := ⟨_, rfl⟩
            refine lv_iadd hx hb dX9_visits_58 ?_
            refine lv_topi (fun z_8 ez_8 => ?_)
            try have tz_8 : z_8.toInt = (1 : Int) + r_7.toInt := by rw [ez_8]; exact my_addI (by decide +kernel) rfl (by omega) (by omega)
            refine lv_aload_n hx hb dX9_visits_59 rfl (lv_at hl 1 rfl) ?_
            refine lv_iload_n hx hb dX9_visits_60 rfl (lv_at hl 2 rfl) ?_
            refine lv_iload_n hx hb dX9_visits_61 rfl (lv_at hl 3 rfl) ?_
            refine lv_iconst (v := 2) hx hb dX9_visits_62 (by decide +kernel) ?_
            refine lv_idiv hx hb dX9_visits_63 (by decide +kernel) ?_
            refine my_eqi (y := 8) (by decide +kernel) ?_
            refine lv_iadd hx hb dX9_visits_64 ?_
            refine my_eqi (y := nI (f + 8)) (my_addN f 8) ?_
            refine lv_iload_n hx hb dX9_visits_65 rfl (lv_at hl 3 rfl) ?_
            refine lv_iconst (v := 2) hx hb dX9_visits_66 (by decide +kernel) ?_
            refine lv_idiv hx hb dX9_visits_67 (by decide +kernel) ?_
            refine my_eqi (y := 8) (by decide +kernel) ?_
            refine lv_iload_n hx hb dX9_visits_68 rfl (lv_at hl 4 rfl) ?_
            refine lv_iload hx hb dX9_visits_69 (lv_at hl 5 rfl) ?_
            refine my_gpI (my_pV (As := [.int (nI (f + 8)), .int 8, .int (nI a), .int (nI b)]) (rest := [.int z_8]) (ci := 9) ⟨hx, hb, hml, hown, hts⟩ (cwV 4 hts gX9_visits_X9_visits rfl rfl rfl (by decide +kernel) ⟨Nat.le_of_ble_eq_true rfl, Nat.le_of_ble_eq_true rfl⟩) hN hK hP [0, 1] rfl 0 rfl rfl rfl rfl hl.1 rfl (Nat.le_of_ble_eq_true rfl) dX9_visits_71 ⟨Nat.le_of_ble_eq_true rfl, Nat.le_of_ble_eq_true rfl⟩  (k_X9_visits_8 l D cI cJ cK m0 a_row a_tape a_number a_read a_readBits a_stands a_parted a_bitsWere a_stood a_chosen a_bestChosen a_often a_sorted a_risen a_risenWays m_thrown m_told m_taped m_at m_to m_many m_readMany m_fewest m_size mf (f + 8) a b (by first | assumption | omega | decide +kernel) (by first | assumption | omega | decide +kernel) (by first | assumption | omega | decide +kernel) (by first | assumption | omega | decide +kernel) (by first | assumption | omega | decide +kernel) (by first | assumption | omega | decide +kernel) (by first | assumption | omega | decide +kernel) (by first | assumption | omega | decide +kernel) (by first | assumption | omega | decide +kernel) (by first | assumption | omega | decide +kernel))) (fun r hp => ?_)
            obtain _ := hp
            obtain ⟨r_9, rfl⟩ : ∃ z, z = r := ⟨_, rfl⟩
            refine lv_iadd hx hb dX9_visits_74 ?_
            refine lv_topi (fun z_10 ez_10 => ?_)
            try have tz_10 : z_10.toInt = z_8.toInt + r_9.toInt := by rw [ez_10]; exact my_addI rfl rfl (by omega) (by omega)
            exact my_rpI hx hb hr hlocks (trivial) dX9_visits_75
          ·
            have d41 : z_1.toInt ≤ ((b : Nat) : Int) := my_ngt c41 rfl (nI_toInt (by omega))
            refine lv_iconst (v := 1) hx hb dX9_visits_44 (by decide +kernel) ?_
            exact my_rpI hx hb hr hlocks (trivial) dX9_visits_45
      ·
        have d27 : r_2.toInt = (0 : Int) := my_eq c27 rfl (by decide +kernel)
        refine lv_iconst (v := 0) hx hb dX9_visits_30 (by decide +kernel) ?_
        exact my_rpI hx hb hr hlocks (trivial) dX9_visits_31
set_option maxHeartbeats 4000000 in
set_option maxRecDepth 100000 in
theorem k_X9_visits_32 (l : Launch) (D : va_G) (cI cJ cK : ClassId) (m0 : Nat) (a_row : Nat) (a_tape : Nat) (a_number : Nat) (a_read : Nat) (a_readBits : Nat) (a_stands : Nat) (a_parted : Nat) (a_bitsWere : Nat) (a_stood : Nat) (a_chosen : Nat) (a_bestChosen : Nat) (a_often : Nat) (a_sorted : Nat) (a_risen : Nat) (a_risenWays : Nat) (m_thrown : Int32) (m_told : Nat) (m_taped : Nat) (m_at : Nat) (m_to : Nat) (m_many : Nat) (m_readMany : Nat) (m_fewest : Int32) (m_size : Nat) (mf : Nat → Int32) (f : Nat) (a : Nat) (b : Nat) (hz_m_told : m_told ≤ 64) (hz_m_taped : m_taped ≤ 100) (hz_m_at : m_at ≤ 100) (hz_m_to : m_to ≤ 100) (hz_m_many : m_many ≤ 64) (hz_m_readMany : m_readMany ≤ 64) (hz_m_size : m_size ≤ 64) (hf : f + 32 ≤ 256) (ha : a ≤ 255) (hb9 : b ≤ 255) : cpI l yX9_visits wsX9_visits ({ frames := 7, cells := 0, slots := 0, locals := 420 } : Room) D (tyIJ cI cJ cK) [.ref m0, .int (nI f), .int 32, .int (nI a), .int (nI b)] [(m0, .inr (9, [.int m_thrown, .int (nI m_told), .ref a_row, .ref a_tape, .int (nI m_taped), .int (nI m_at), .int (nI m_to), .int (nI m_many), .ref a_number, .ref a_read, .int (nI m_readMany), .ref a_readBits, .ref a_stands, .ref a_parted, .ref a_bitsWere, .ref a_stood, .ref a_chosen, .ref a_bestChosen, .int m_fewest, .ref a_often, .ref a_sorted, .int (nI m_size), .ref a_risen, .ref a_risenWays])), (a_often, .inl (cI, 512, .inl mf))] (fun (r : Int32) => True) := by
  refine cpI.of (cc := cX9_visits) (maxL := 6) (ret := (some .int)) (by decide) rfl (Nat.le_of_ble_eq_true rfl) ?_
  intro p e s m below meth c ls hx hb hr hts hown hml hlocks hname hK hN hP hl
  have hl : lv_has ls 6 [(0, .ref m0), (1, .int (nI f)), (2, .int 32), (3, .int (nI a)), (4, .int (nI b))] := hl
  have hown : s.vm.findClass RX9 = some m.cls := hown
  refine lv_iload_n hx hb dX9_visits_0 rfl (lv_at hl 1 rfl) ?_
  refine lv_iload_n hx hb dX9_visits_1 rfl (lv_at hl 2 rfl) ?_
  refine lv_iadd hx hb dX9_visits_2 ?_
  refine my_eqi (y := nI (f + 32)) (my_addN f 32) ?_
  refine lv_iconst (v := 1) hx hb dX9_visits_3 (by decide +kernel) ?_
  refine lv_isub hx hb dX9_visits_4 ?_
  refine lv_topi (fun z_1 ez_1 => ?_)
  try have tz_1 : z_1.toInt = ((f + 32 : Nat) : Int) - (1 : Int) := by rw [ez_1]; exact my_subI (nI_toInt (by omega)) (by decide +kernel) (by omega) (by omega)
  refine lv_istore (lv' := [(5, .int z_1), (0, .ref m0), (1, .int (nI f)), (2, .int 32), (3, .int (nI a)), (4, .int (nI b))]) hx hb dX9_visits_5 hl (by decide) rfl (fun ls hl => ?_)
  refine lv_iload_n hx hb dX9_visits_7 rfl (lv_at hl 2 rfl) ?_
  refine lv_iload hx hb dX9_visits_8 (lv_at hl 5 rfl) ?_
  refine lv_icmp_gt (tgt := 30) hx hb dX9_visits_10 (by decide) (fun c10 => ?_) (fun c10 => ?_)
  ·
    have d10 : ((f : Nat) : Int) > ((b : Nat) : Int) := my_gt c10 (nI_toInt (by omega)) (nI_toInt (by omega))
    refine lv_iconst (v := 0) hx hb dX9_visits_30 (by decide +kernel) ?_
    exact my_rpI hx hb hr hlocks (trivial) dX9_visits_31
  ·
    have d10 : ((f : Nat) : Int) ≤ ((b : Nat) : Int) := my_ngt c10 (nI_toInt (by omega)) (nI_toInt (by omega))
    refine lv_iload hx hb dX9_visits_13 (lv_at hl 0 rfl) ?_
    refine lv_iload_n hx hb dX9_visits_15 rfl (lv_at hl 4 rfl) ?_
    refine lv_icmp_lt (tgt := 30) hx hb dX9_visits_16 (by decide) (fun c16 => ?_) (fun c16 => ?_)
    ·
      have d16 : z_1.toInt < ((a : Nat) : Int) := my_lt c16 rfl (nI_toInt (by omega))
      refine lv_iconst (v := 0) hx hb dX9_visits_30 (by decide +kernel) ?_
      exact my_rpI hx hb hr hlocks (trivial) dX9_visits_31
    ·
      have d16 : z_1.toInt ≥ ((a : Nat) : Int) := my_nlt c16 rfl (nI_toInt (by omega))
      refine lv_aload_n hx hb dX9_visits_19 rfl (lv_at hl 1 rfl) ?_
      refine lv_iconst (v := 0) hx hb dX9_visits_20 (by decide +kernel) ?_
      refine lv_iload_n hx hb dX9_visits_21 rfl (lv_at hl 2 rfl) ?_
      refine lv_iload hx hb dX9_visits_22 (lv_at hl 0 rfl) ?_
      refine my_gpI (my_pV (As := [.int 0, .int (nI f), .int z_1]) (rest := []) (ci := 9) ⟨hx, hb, hml, hown, hts⟩ (cwV 3 hts gX9_visits_X9_within rfl rfl rfl (by decide +kernel) ⟨Nat.le_of_ble_eq_true rfl, Nat.le_of_ble_eq_true rfl⟩) hN hK hP [0, 1] rfl 0 rfl rfl rfl rfl hl.1 rfl (Nat.le_of_ble_eq_true rfl) dX9_visits_24 ⟨Nat.le_of_ble_eq_true rfl, Nat.le_of_ble_eq_true rfl⟩  (k0_X9_within l D cI cJ cK m0 a_row a_tape a_number a_read a_readBits a_stands a_parted a_bitsWere a_stood a_chosen a_bestChosen a_often a_sorted a_risen a_risenWays m_thrown m_told m_taped m_at m_to m_many m_readMany m_fewest m_size mf (nI f) ((f : Nat) : Int) (nI_toInt (by omega)) z_1 z_1.toInt rfl (by first | assumption | omega | decide +kernel) (by first | assumption | omega | decide +kernel) (by first | assumption | omega | decide +kernel) (by first | assumption | omega | decide +kernel) (by first | assumption | omega | decide +kernel) (by first | assumption | omega | decide +kernel) (by first | assumption | omega | decide +kernel) (by first | assumption | omega | decide +kernel))) (fun r hp => ?_)
      obtain _ := hp
      obtain ⟨r_2, rfl⟩ : ∃ z, z = r := ⟨_, rfl⟩
      refine lv_if_ne (tgt := 32) hx hb dX9_visits_27 (by decide) (fun c27 => ?_) (fun c27 => ?_)
      ·
        have d27 : r_2.toInt ≠ (0 : Int) := my_ne c27 rfl (by decide +kernel)
        refine lv_iload_n hx hb dX9_visits_32 rfl (lv_at hl 2 rfl) ?_
        refine lv_iload_n hx hb dX9_visits_33 rfl (lv_at hl 4 rfl) ?_
        refine lv_icmp_lt (tgt := 46) hx hb dX9_visits_34 (by decide) (fun c34 => ?_) (fun c34 => ?_)
        ·
          have d34 : ((f : Nat) : Int) < ((a : Nat) : Int) := my_lt c34 (nI_toInt (by omega)) (nI_toInt (by omega))
          refine lv_iconst (v := 1) hx hb dX9_visits_46 (by decide +kernel) ?_
          refine lv_aload_n hx hb dX9_visits_47 rfl (lv_at hl 1 rfl) ?_
          refine lv_iload_n hx hb dX9_visits_48 rfl (lv_at hl 2 rfl) ?_
          refine lv_iload_n hx hb dX9_visits_49 rfl (lv_at hl 3 rfl) ?_
          refine lv_iconst (v := 2) hx hb dX9_visits_50 (by decide +kernel) ?_
          refine lv_idiv hx hb dX9_visits_51 (by decide +kernel) ?_
          refine my_eqi (y := 16) (by decide +kernel) ?_
          refine lv_iload_n hx hb dX9_visits_52 rfl (lv_at hl 4 rfl) ?_
          refine lv_iload hx hb dX9_visits_53 (lv_at hl 5 rfl) ?_
          refine my_gpI (my_pV (As := [.int (nI f), .int 16, .int (nI a), .int (nI b)]) (rest := [.int 1]) (ci := 9) ⟨hx, hb, hml, hown, hts⟩ (cwV 4 hts gX9_visits_X9_visits rfl rfl rfl (by decide +kernel) ⟨Nat.le_of_ble_eq_true rfl, Nat.le_of_ble_eq_true rfl⟩) hN hK hP [0, 1] rfl 0 rfl rfl rfl rfl hl.1 rfl (Nat.le_of_ble_eq_true rfl) dX9_visits_55 ⟨Nat.le_of_ble_eq_true rfl, Nat.le_of_ble_eq_true rfl⟩  (k_X9_visits_16 l D cI cJ cK m0 a_row a_tape a_number a_read a_readBits a_stands a_parted a_bitsWere a_stood a_chosen a_bestChosen a_often a_sorted a_risen a_risenWays m_thrown m_told m_taped m_at m_to m_many m_readMany m_fewest m_size mf f a b (by first | assumption | omega | decide +kernel) (by first | assumption | omega | decide +kernel) (by first | assumption | omega | decide +kernel) (by first | assumption | omega | decide +kernel) (by first | assumption | omega | decide +kernel) (by first | assumption | omega | decide +kernel) (by first | assumption | omega | decide +kernel) (by first | assumption | omega | decide +kernel) (by first | assumption | omega | decide +kernel) (by first | assumption | omega | decide +kernel))) (fun r hp => ?_)
          obtain _ := hp
          obtain ⟨r_3, rfl⟩ : ∃ z, z = r := ⟨_, rfl⟩
          refine lv_iadd hx hb dX9_visits_58 ?_
          refine lv_topi (fun z_4 ez_4 => ?_)
          try have tz_4 : z_4.toInt = (1 : Int) + r_3.toInt := by rw [ez_4]; exact my_addI (by decide +kernel) rfl (by omega) (by omega)
          refine lv_aload_n hx hb dX9_visits_59 rfl (lv_at hl 1 rfl) ?_
          refine lv_iload_n hx hb dX9_visits_60 rfl (lv_at hl 2 rfl) ?_
          refine lv_iload_n hx hb dX9_visits_61 rfl (lv_at hl 3 rfl) ?_
          refine lv_iconst (v := 2) hx hb dX9_visits_62 (by decide +kernel) ?_
          refine lv_idiv hx hb dX9_visits_63 (by decide +kernel) ?_
          refine my_eqi (y := 16) (by decide +kernel) ?_
          refine lv_iadd hx hb dX9_visits_64 ?_
          refine my_eqi (y := nI (f + 16)) (my_addN f 16) ?_
          refine lv_iload_n hx hb dX9_visits_65 rfl (lv_at hl 3 rfl) ?_
          refine lv_iconst (v := 2) hx hb dX9_visits_66 (by decide +kernel) ?_
          refine lv_idiv hx hb dX9_visits_67 (by decide +kernel) ?_
          refine my_eqi (y := 16) (by decide +kernel) ?_
          refine lv_iload_n hx hb dX9_visits_68 rfl (lv_at hl 4 rfl) ?_
          refine lv_iload hx hb dX9_visits_69 (lv_at hl 5 rfl) ?_
          refine my_gpI (my_pV (As := [.int (nI (f + 16)), .int 16, .int (nI a), .int (nI b)]) (rest := [.int z_4]) (ci := 9) ⟨hx, hb, hml, hown, hts⟩ (cwV 4 hts gX9_visits_X9_visits rfl rfl rfl (by decide +kernel) ⟨Nat.le_of_ble_eq_true rfl, Nat.le_of_ble_eq_true rfl⟩) hN hK hP [0, 1] rfl 0 rfl rfl rfl rfl hl.1 rfl (Nat.le_of_ble_eq_true rfl) dX9_visits_71 ⟨Nat.le_of_ble_eq_true rfl, Nat.le_of_ble_eq_true rfl⟩  (k_X9_visits_16 l D cI cJ cK m0 a_row a_tape a_number a_read a_readBits a_stands a_parted a_bitsWere a_stood a_chosen a_bestChosen a_often a_sorted a_risen a_risenWays m_thrown m_told m_taped m_at m_to m_many m_readMany m_fewest m_size mf (f + 16) a b (by first | assumption | omega | decide +kernel) (by first | assumption | omega | decide +kernel) (by first | assumption | omega | decide +kernel) (by first | assumption | omega | decide +kernel) (by first | assumption | omega | decide +kernel) (by first | assumption | omega | decide +kernel) (by first | assumption | omega | decide +kernel) (by first | assumption | omega | decide +kernel) (by first | assumption | omega | decide +kernel) (by first | assumption | omega | decide +kernel))) (fun r hp => ?_)
          obtain _ := hp
          obtain ⟨r_5, rfl⟩ : ∃ z, z = r := ⟨_, rfl⟩
          refine lv_iadd hx hb dX9_visits_74 ?_
          refine lv_topi (fun z_6 ez_6 => ?_)
          try have tz_6 : z_6.toInt = z_4.toInt + r_5.toInt := by rw [ez_6]; exact my_addI rfl rfl (by omega) (by omega)
          exact my_rpI hx hb hr hlocks (trivial) dX9_visits_75
        ·
          have d34 : ((f : Nat) : Int) ≥ ((a : Nat) : Int) := my_nlt c34 (nI_toInt (by omega)) (nI_toInt (by omega))
          refine lv_iload hx hb dX9_visits_37 (lv_at hl 0 rfl) ?_
          refine lv_iload hx hb dX9_visits_39 (lv_at hl 5 rfl) ?_
          refine lv_icmp_gt (tgt := 46) hx hb dX9_visits_41 (by decide) (fun c41 => ?_) (fun c41 => ?_)
          ·
            have d41 : z_1.toInt > ((b : Nat) : Int) := my_gt c41 rfl (nI_toInt (by omega))
            refine lv_iconst (v := 1) hx hb dX9_visits_46 (by decide +kernel) ?_
            refine lv_aload_n hx hb dX9_visits_47 rfl (lv_at hl 1 rfl) ?_
            refine lv_iload_n hx hb dX9_visits_48 rfl (lv_at hl 2 rfl) ?_
            refine lv_iload_n hx hb dX9_visits_49 rfl (lv_at hl 3 rfl) ?_
            refine lv_iconst (v := 2) hx hb dX9_visits_50 (by decide +kernel) ?_
            refine lv_idiv hx hb dX9_visits_51 (by decide +kernel) ?_
            refine my_eqi (y := 16) (by decide +kernel) ?_
            refine lv_iload_n hx hb dX9_visits_52 rfl (lv_at hl 4 rfl) ?_
            refine lv_iload hx hb dX9_visits_53 (lv_at hl 5 rfl) ?_
            refine my_gpI (my_pV (As := [.int (nI f), .int 16, .int (nI a), .int (nI b)]) (rest := [.int 1]) (ci := 9) ⟨hx, hb, hml, hown, hts⟩ (cwV 4 hts gX9_visits_X9_visits rfl rfl rfl (by decide +kernel) ⟨Nat.le_of_ble_eq_true rfl, Nat.le_of_ble_eq_true rfl⟩) hN hK hP [0, 1] rfl 0 rfl rfl rfl rfl hl.1 rfl (Nat.le_of_ble_eq_true rfl) dX9_visits_55 ⟨Nat.le_of_ble_eq_true rfl, Nat.le_of_ble_eq_true rfl⟩  (k_X9_visits_16 l D cI cJ cK m0 a_row a_tape a_number a_read a_readBits a_stands a_parted a_bitsWere a_stood a_chosen a_bestChosen a_often a_sorted a_risen a_risenWays m_thrown m_told m_taped m_at m_to m_many m_readMany m_fewest m_size mf f a b (by first | assumption | omega | decide +kernel) (by first | assumption | omega | decide +kernel) (by first | assumption | omega | decide +kernel) (by first | assumption | omega | decide +kernel) (by first | assumption | omega | decide +kernel) (by first | assumption | omega | decide +kernel) (by first | assumption | omega | decide +kernel) (by first | assumption | omega | decide +kernel) (by first | assumption | omega | decide +kernel) (by first | assumption | omega | decide +kernel))) (fun r hp => ?_)
            obtain _ := hp
            obtain ⟨r_7, rfl⟩ : ∃ z, z = r := ⟨_, rfl⟩
            refine lv_iadd hx hb dX9_visits_58 ?_
            refine lv_topi (fun z_8 ez_8 => ?_)
            try have tz_8 : z_8.toInt = (1 : Int) + r_7.toInt := by rw [ez_8]; exact my_addI (by decide +kernel) rfl (by omega) (by omega)
            refine lv_aload_n hx hb dX9_visits_59 rfl (lv_at hl 1 rfl) ?_
            refine lv_iload_n hx hb dX9_visits_60 rfl (lv_at hl 2 rfl) ?_
            refine lv_iload_n hx hb dX9_visits_61 rfl (lv_at hl 3 rfl) ?_
            refine lv_iconst (v := 2) hx hb dX9_visits_62 (by decide +kernel) ?_
            refine lv_idiv hx hb dX9_visits_63 (by decide +kernel) ?_
            refine my_eqi (y := 16) (by decide +kernel) ?_
            refine lv_iadd hx hb dX9_visits_64 ?_
            refine my_eqi (y := nI (f + 16)) (my_addN f 16) ?_
            refine lv_iload_n hx hb dX9_visits_65 rfl (lv_at hl 3 rfl) ?_
            refine lv_iconst (v := 2) hx hb dX9_visits_66 (by decide +kernel) ?_
            refine lv_idiv hx hb dX9_visits_67 (by decide +kernel) ?_
            refine my_eqi (y := 16) (by decide +kernel) ?_
            refine lv_iload_n hx hb dX9_visits_68 rfl (lv_at hl 4 rfl) ?_
            refine lv_iload hx hb dX9_visits_69 (lv_at hl 5 rfl) ?_
            refine my_gpI (my_pV (As := [.int (nI (f + 16)), .int 16, .int (nI a), .int (nI b)]) (rest := [.int z_8]) (ci := 9) ⟨hx, hb, hml, hown, hts⟩ (cwV 4 hts gX9_visits_X9_visits rfl rfl rfl (by decide +kernel) ⟨Nat.le_of_ble_eq_true rfl, Nat.le_of_ble_eq_true rfl⟩) hN hK hP [0, 1] rfl 0 rfl rfl rfl rfl hl.1 rfl (Nat.le_of_ble_eq_true rfl) dX9_visits_71 ⟨Nat.le_of_ble_eq_true rfl, Nat.le_of_ble_eq_true rfl⟩  (k_X9_visits_16 l D cI cJ cK m0 a_row a_tape a_number a_read a_readBits a_stands a_parted a_bitsWere a_stood a_chosen a_bestChosen a_often a_sorted a_risen a_risenWays m_thrown m_told m_taped m_at m_to m_many m_readMany m_fewest m_size mf (f + 16) a b (by first | assumption | omega | decide +kernel) (by first | assumption | omega | decide +kernel) (by first | assumption | omega | decide +kernel) (by first | assumption | omega | decide +kernel) (by first | assumption | omega | decide +kernel) (by first | assumption | omega | decide +kernel) (by first | assumption | omega | decide +kernel) (by first | assumption | omega | decide +kernel) (by first | assumption | omega | decide +kernel) (by first | assumption | omega | decide +kernel))) (fun r hp => ?_)
            obtain _ := hp
            obtain ⟨r_9, rfl⟩ : ∃ z, z = r := ⟨_, rfl⟩
            refine lv_iadd hx hb dX9_visits_74 ?_
            refine lv_topi (fun z_10 ez_10 => ?_)
            try have tz_10 : z_10.toInt = z_8.toInt + r_9.toInt := by rw [ez_10]; exact my_addI rfl rfl (by omega) (by omega)
            exact my_rpI hx hb hr hlocks (trivial) dX9_visits_75
          ·
            have d41 : z_1.toInt ≤ ((b : Nat) : Int) := my_ngt c41 rfl (nI_toInt (by omega))
            refine lv_iconst (v := 1) hx hb dX9_visits_44 (by decide +kernel) ?_
            exact my_rpI hx hb hr hlocks (trivial) dX9_visits_45
      ·
        have d27 : r_2.toInt = (0 : Int) := my_eq c27 rfl (by decide +kernel)
        refine lv_iconst (v := 0) hx hb dX9_visits_30 (by decide +kernel) ?_
        exact my_rpI hx hb hr hlocks (trivial) dX9_visits_31
set_option maxHeartbeats 4000000 in
set_option maxRecDepth 100000 in
theorem k_X9_visits_64 (l : Launch) (D : va_G) (cI cJ cK : ClassId) (m0 : Nat) (a_row : Nat) (a_tape : Nat) (a_number : Nat) (a_read : Nat) (a_readBits : Nat) (a_stands : Nat) (a_parted : Nat) (a_bitsWere : Nat) (a_stood : Nat) (a_chosen : Nat) (a_bestChosen : Nat) (a_often : Nat) (a_sorted : Nat) (a_risen : Nat) (a_risenWays : Nat) (m_thrown : Int32) (m_told : Nat) (m_taped : Nat) (m_at : Nat) (m_to : Nat) (m_many : Nat) (m_readMany : Nat) (m_fewest : Int32) (m_size : Nat) (mf : Nat → Int32) (f : Nat) (a : Nat) (b : Nat) (hz_m_told : m_told ≤ 64) (hz_m_taped : m_taped ≤ 100) (hz_m_at : m_at ≤ 100) (hz_m_to : m_to ≤ 100) (hz_m_many : m_many ≤ 64) (hz_m_readMany : m_readMany ≤ 64) (hz_m_size : m_size ≤ 64) (hf : f + 64 ≤ 256) (ha : a ≤ 255) (hb9 : b ≤ 255) : cpI l yX9_visits wsX9_visits ({ frames := 8, cells := 0, slots := 0, locals := 480 } : Room) D (tyIJ cI cJ cK) [.ref m0, .int (nI f), .int 64, .int (nI a), .int (nI b)] [(m0, .inr (9, [.int m_thrown, .int (nI m_told), .ref a_row, .ref a_tape, .int (nI m_taped), .int (nI m_at), .int (nI m_to), .int (nI m_many), .ref a_number, .ref a_read, .int (nI m_readMany), .ref a_readBits, .ref a_stands, .ref a_parted, .ref a_bitsWere, .ref a_stood, .ref a_chosen, .ref a_bestChosen, .int m_fewest, .ref a_often, .ref a_sorted, .int (nI m_size), .ref a_risen, .ref a_risenWays])), (a_often, .inl (cI, 512, .inl mf))] (fun (r : Int32) => True) := by
  refine cpI.of (cc := cX9_visits) (maxL := 6) (ret := (some .int)) (by decide) rfl (Nat.le_of_ble_eq_true rfl) ?_
  intro p e s m below meth c ls hx hb hr hts hown hml hlocks hname hK hN hP hl
  have hl : lv_has ls 6 [(0, .ref m0), (1, .int (nI f)), (2, .int 64), (3, .int (nI a)), (4, .int (nI b))] := hl
  have hown : s.vm.findClass RX9 = some m.cls := hown
  refine lv_iload_n hx hb dX9_visits_0 rfl (lv_at hl 1 rfl) ?_
  refine lv_iload_n hx hb dX9_visits_1 rfl (lv_at hl 2 rfl) ?_
  refine lv_iadd hx hb dX9_visits_2 ?_
  refine my_eqi (y := nI (f + 64)) (my_addN f 64) ?_
  refine lv_iconst (v := 1) hx hb dX9_visits_3 (by decide +kernel) ?_
  refine lv_isub hx hb dX9_visits_4 ?_
  refine lv_topi (fun z_1 ez_1 => ?_)
  try have tz_1 : z_1.toInt = ((f + 64 : Nat) : Int) - (1 : Int) := by rw [ez_1]; exact my_subI (nI_toInt (by omega)) (by decide +kernel) (by omega) (by omega)
  refine lv_istore (lv' := [(5, .int z_1), (0, .ref m0), (1, .int (nI f)), (2, .int 64), (3, .int (nI a)), (4, .int (nI b))]) hx hb dX9_visits_5 hl (by decide) rfl (fun ls hl => ?_)
  refine lv_iload_n hx hb dX9_visits_7 rfl (lv_at hl 2 rfl) ?_
  refine lv_iload hx hb dX9_visits_8 (lv_at hl 5 rfl) ?_
  refine lv_icmp_gt (tgt := 30) hx hb dX9_visits_10 (by decide) (fun c10 => ?_) (fun c10 => ?_)
  ·
    have d10 : ((f : Nat) : Int) > ((b : Nat) : Int) := my_gt c10 (nI_toInt (by omega)) (nI_toInt (by omega))
    refine lv_iconst (v := 0) hx hb dX9_visits_30 (by decide +kernel) ?_
    exact my_rpI hx hb hr hlocks (trivial) dX9_visits_31
  ·
    have d10 : ((f : Nat) : Int) ≤ ((b : Nat) : Int) := my_ngt c10 (nI_toInt (by omega)) (nI_toInt (by omega))
    refine lv_iload hx hb dX9_visits_13 (lv_at hl 0 rfl) ?_
    refine lv_iload_n hx hb dX9_visits_15 rfl (lv_at hl 4 rfl) ?_
    refine lv_icmp_lt (tgt := 30) hx hb dX9_visits_16 (by decide) (fun c16 => ?_) (fun c16 => ?_)
    ·
      have d16 : z_1.toInt < ((a : Nat) : Int) := my_lt c16 rfl (nI_toInt (by omega))
      refine lv_iconst (v := 0) hx hb dX9_visits_30 (by decide +kernel) ?_
      exact my_rpI hx hb hr hlocks (trivial) dX9_visits_31
    ·
      have d16 : z_1.toInt ≥ ((a : Nat) : Int) := my_nlt c16 rfl (nI_toInt (by omega))
      refine lv_aload_n hx hb dX9_visits_19 rfl (lv_at hl 1 rfl) ?_
      refine lv_iconst (v := 0) hx hb dX9_visits_20 (by decide +kernel) ?_
      refine lv_iload_n hx hb dX9_visits_21 rfl (lv_at hl 2 rfl) ?_
      refine lv_iload hx hb dX9_visits_22 (lv_at hl 0 rfl) ?_
      refine my_gpI (my_pV (As := [.int 0, .int (nI f), .int z_1]) (rest := []) (ci := 9) ⟨hx, hb, hml, hown, hts⟩ (cwV 3 hts gX9_visits_X9_within rfl rfl rfl (by decide +kernel) ⟨Nat.le_of_ble_eq_true rfl, Nat.le_of_ble_eq_true rfl⟩) hN hK hP [0, 1] rfl 0 rfl rfl rfl rfl hl.1 rfl (Nat.le_of_ble_eq_true rfl) dX9_visits_24 ⟨Nat.le_of_ble_eq_true rfl, Nat.le_of_ble_eq_true rfl⟩  (k0_X9_within l D cI cJ cK m0 a_row a_tape a_number a_read a_readBits a_stands a_parted a_bitsWere a_stood a_chosen a_bestChosen a_often a_sorted a_risen a_risenWays m_thrown m_told m_taped m_at m_to m_many m_readMany m_fewest m_size mf (nI f) ((f : Nat) : Int) (nI_toInt (by omega)) z_1 z_1.toInt rfl (by first | assumption | omega | decide +kernel) (by first | assumption | omega | decide +kernel) (by first | assumption | omega | decide +kernel) (by first | assumption | omega | decide +kernel) (by first | assumption | omega | decide +kernel) (by first | assumption | omega | decide +kernel) (by first | assumption | omega | decide +kernel) (by first | assumption | omega | decide +kernel))) (fun r hp => ?_)
      obtain _ := hp
      obtain ⟨r_2, rfl⟩ : ∃ z, z = r := ⟨_, rfl⟩
      refine lv_if_ne (tgt := 32) hx hb dX9_visits_27 (by decide) (fun c27 => ?_) (fun c27 => ?_)
      ·
        have d27 : r_2.toInt ≠ (0 : Int) := my_ne c27 rfl (by decide +kernel)
        refine lv_iload_n hx hb dX9_visits_32 rfl (lv_at hl 2 rfl) ?_
        refine lv_iload_n hx hb dX9_visits_33 rfl (lv_at hl 4 rfl) ?_
        refine lv_icmp_lt (tgt := 46) hx hb dX9_visits_34 (by decide) (fun c34 => ?_) (fun c34 => ?_)
        ·
          have d34 : ((f : Nat) : Int) < ((a : Nat) : Int) := my_lt c34 (nI_toInt (by omega)) (nI_toInt (by omega))
          refine lv_iconst (v := 1) hx hb dX9_visits_46 (by decide +kernel) ?_
          refine lv_aload_n hx hb dX9_visits_47 rfl (lv_at hl 1 rfl) ?_
          refine lv_iload_n hx hb dX9_visits_48 rfl (lv_at hl 2 rfl) ?_
          refine lv_iload_n hx hb dX9_visits_49 rfl (lv_at hl 3 rfl) ?_
          refine lv_iconst (v := 2) hx hb dX9_visits_50 (by decide +kernel) ?_
          refine lv_idiv hx hb dX9_visits_51 (by decide +kernel) ?_
          refine my_eqi (y := 32) (by decide +kernel) ?_
          refine lv_iload_n hx hb dX9_visits_52 rfl (lv_at hl 4 rfl) ?_
          refine lv_iload hx hb dX9_visits_53 (lv_at hl 5 rfl) ?_
          refine my_gpI (my_pV (As := [.int (nI f), .int 32, .int (nI a), .int (nI b)]) (rest := [.int 1]) (ci := 9) ⟨hx, hb, hml, hown, hts⟩ (cwV 4 hts gX9_visits_X9_visits rfl rfl rfl (by decide +kernel) ⟨Nat.le_of_ble_eq_true rfl, Nat.le_of_ble_eq_true rfl⟩) hN hK hP [0, 1] rfl 0 rfl rfl rfl rfl hl.1 rfl (Nat.le_of_ble_eq_true rfl) dX9_visits_55 ⟨Nat.le_of_ble_eq_true rfl, Nat.le_of_ble_eq_true rfl⟩  (k_X9_visits_32 l D cI cJ cK m0 a_row a_tape a_number a_read a_readBits a_stands a_parted a_bitsWere a_stood a_chosen a_bestChosen a_often a_sorted a_risen a_risenWays m_thrown m_told m_taped m_at m_to m_many m_readMany m_fewest m_size mf f a b (by first | assumption | omega | decide +kernel) (by first | assumption | omega | decide +kernel) (by first | assumption | omega | decide +kernel) (by first | assumption | omega | decide +kernel) (by first | assumption | omega | decide +kernel) (by first | assumption | omega | decide +kernel) (by first | assumption | omega | decide +kernel) (by first | assumption | omega | decide +kernel) (by first | assumption | omega | decide +kernel) (by first | assumption | omega | decide +kernel))) (fun r hp => ?_)
          obtain _ := hp
          obtain ⟨r_3, rfl⟩ : ∃ z, z = r := ⟨_, rfl⟩
          refine lv_iadd hx hb dX9_visits_58 ?_
          refine lv_topi (fun z_4 ez_4 => ?_)
          try have tz_4 : z_4.toInt = (1 : Int) + r_3.toInt := by rw [ez_4]; exact my_addI (by decide +kernel) rfl (by omega) (by omega)
          refine lv_aload_n hx hb dX9_visits_59 rfl (lv_at hl 1 rfl) ?_
          refine lv_iload_n hx hb dX9_visits_60 rfl (lv_at hl 2 rfl) ?_
          refine lv_iload_n hx hb dX9_visits_61 rfl (lv_at hl 3 rfl) ?_
          refine lv_iconst (v := 2) hx hb dX9_visits_62 (by decide +kernel) ?_
          refine lv_idiv hx hb dX9_visits_63 (by decide +kernel) ?_
          refine my_eqi (y := 32) (by decide +kernel) ?_
          refine lv_iadd hx hb dX9_visits_64 ?_
          refine my_eqi (y := nI (f + 32)) (my_addN f 32) ?_
          refine lv_iload_n hx hb dX9_visits_65 rfl (lv_at hl 3 rfl) ?_
          refine lv_iconst (v := 2) hx hb dX9_visits_66 (by decide +kernel) ?_
          refine lv_idiv hx hb dX9_visits_67 (by decide +kernel) ?_
          refine my_eqi (y := 32) (by decide +kernel) ?_
          refine lv_iload_n hx hb dX9_visits_68 rfl (lv_at hl 4 rfl) ?_
          refine lv_iload hx hb dX9_visits_69 (lv_at hl 5 rfl) ?_
          refine my_gpI (my_pV (As := [.int (nI (f + 32)), .int 32, .int (nI a), .int (nI b)]) (rest := [.int z_4]) (ci := 9) ⟨hx, hb, hml, hown, hts⟩ (cwV 4 hts gX9_visits_X9_visits rfl rfl rfl (by decide +kernel) ⟨Nat.le_of_ble_eq_true rfl, Nat.le_of_ble_eq_true rfl⟩) hN hK hP [0, 1] rfl 0 rfl rfl rfl rfl hl.1 rfl (Nat.le_of_ble_eq_true rfl) dX9_visits_71 ⟨Nat.le_of_ble_eq_true rfl, Nat.le_of_ble_eq_true rfl⟩  (k_X9_visits_32 l D cI cJ cK m0 a_row a_tape a_number a_read a_readBits a_stands a_parted a_bitsWere a_stood a_chosen a_bestChosen a_often a_sorted a_risen a_risenWays m_thrown m_told m_taped m_at m_to m_many m_readMany m_fewest m_size mf (f + 32) a b (by first | assumption | omega | decide +kernel) (by first | assumption | omega | decide +kernel) (by first | assumption | omega | decide +kernel) (by first | assumption | omega | decide +kernel) (by first | assumption | omega | decide +kernel) (by first | assumption | omega | decide +kernel) (by first | assumption | omega | decide +kernel) (by first | assumption | omega | decide +kernel) (by first | assumption | omega | decide +kernel) (by first | assumption | omega | decide +kernel))) (fun r hp => ?_)
          obtain _ := hp
          obtain ⟨r_5, rfl⟩ : ∃ z, z = r := ⟨_, rfl⟩
          refine lv_iadd hx hb dX9_visits_74 ?_
          refine lv_topi (fun z_6 ez_6 => ?_)
          try have tz_6 : z_6.toInt = z_4.toInt + r_5.toInt := by rw [ez_6]; exact my_addI rfl rfl (by omega) (by omega)
          exact my_rpI hx hb hr hlocks (trivial) dX9_visits_75
        ·
          have d34 : ((f : Nat) : Int) ≥ ((a : Nat) : Int) := my_nlt c34 (nI_toInt (by omega)) (nI_toInt (by omega))
          refine lv_iload hx hb dX9_visits_37 (lv_at hl 0 rfl) ?_
          refine lv_iload hx hb dX9_visits_39 (lv_at hl 5 rfl) ?_
          refine lv_icmp_gt (tgt := 46) hx hb dX9_visits_41 (by decide) (fun c41 => ?_) (fun c41 => ?_)
          ·
            have d41 : z_1.toInt > ((b : Nat) : Int) := my_gt c41 rfl (nI_toInt (by omega))
            refine lv_iconst (v := 1) hx hb dX9_visits_46 (by decide +kernel) ?_
            refine lv_aload_n hx hb dX9_visits_47 rfl (lv_at hl 1 rfl) ?_
            refine lv_iload_n hx hb dX9_visits_48 rfl (lv_at hl 2 rfl) ?_
            refine lv_iload_n hx hb dX9_visits_49 rfl (lv_at hl 3 rfl) ?_
            refine lv_iconst (v := 2) hx hb dX9_visits_50 (by decide +kernel) ?_
            refine lv_idiv hx hb dX9_visits_51 (by decide +kernel) ?_
            refine my_eqi (y := 32) (by decide +kernel) ?_
            refine lv_iload_n hx hb dX9_visits_52 rfl (lv_at hl 4 rfl) ?_
            refine lv_iload hx hb dX9_visits_53 (lv_at hl 5 rfl) ?_
            refine my_gpI (my_pV (As := [.int (nI f), .int 32, .int (nI a), .int (nI b)]) (rest := [.int 1]) (ci := 9) ⟨hx, hb, hml, hown, hts⟩ (cwV 4 hts gX9_visits_X9_visits rfl rfl rfl (by decide +kernel) ⟨Nat.le_of_ble_eq_true rfl, Nat.le_of_ble_eq_true rfl⟩) hN hK hP [0, 1] rfl 0 rfl rfl rfl rfl hl.1 rfl (Nat.le_of_ble_eq_true rfl) dX9_visits_55 ⟨Nat.le_of_ble_eq_true rfl, Nat.le_of_ble_eq_true rfl⟩  (k_X9_visits_32 l D cI cJ cK m0 a_row a_tape a_number a_read a_readBits a_stands a_parted a_bitsWere a_stood a_chosen a_bestChosen a_often a_sorted a_risen a_risenWays m_thrown m_told m_taped m_at m_to m_many m_readMany m_fewest m_size mf f a b (by first | assumption | omega | decide +kernel) (by first | assumption | omega | decide +kernel) (by first | assumption | omega | decide +kernel) (by first | assumption | omega | decide +kernel) (by first | assumption | omega | decide +kernel) (by first | assumption | omega | decide +kernel) (by first | assumption | omega | decide +kernel) (by first | assumption | omega | decide +kernel) (by first | assumption | omega | decide +kernel) (by first | assumption | omega | decide +kernel))) (fun r hp => ?_)
            obtain _ := hp
            obtain ⟨r_7, rfl⟩ : ∃ z, z = r := ⟨_, rfl⟩
            refine lv_iadd hx hb dX9_visits_58 ?_
            refine lv_topi (fun z_8 ez_8 => ?_)
            try have tz_8 : z_8.toInt = (1 : Int) + r_7.toInt := by rw [ez_8]; exact my_addI (by decide +kernel) rfl (by omega) (by omega)
            refine lv_aload_n hx hb dX9_visits_59 rfl (lv_at hl 1 rfl) ?_
            refine lv_iload_n hx hb dX9_visits_60 rfl (lv_at hl 2 rfl) ?_
            refine lv_iload_n hx hb dX9_visits_61 rfl (lv_at hl 3 rfl) ?_
            refine lv_iconst (v := 2) hx hb dX9_visits_62 (by decide +kernel) ?_
            refine lv_idiv hx hb dX9_visits_63 (by decide +kernel) ?_
            refine my_eqi (y := 32) (by decide +kernel) ?_
            refine lv_iadd hx hb dX9_visits_64 ?_
            refine my_eqi (y := nI (f + 32)) (my_addN f 32) ?_
            refine lv_iload_n hx hb dX9_visits_65 rfl (lv_at hl 3 rfl) ?_
            refine lv_iconst (v := 2) hx hb dX9_visits_66 (by decide +kernel) ?_
            refine lv_idiv hx hb dX9_visits_67 (by decide +kernel) ?_
            refine my_eqi (y := 32) (by decide +kernel) ?_
            refine lv_iload_n hx hb dX9_visits_68 rfl (lv_at hl 4 rfl) ?_
            refine lv_iload hx hb dX9_visits_69 (lv_at hl 5 rfl) ?_
            refine my_gpI (my_pV (As := [.int (nI (f + 32)), .int 32, .int (nI a), .int (nI b)]) (rest := [.int z_8]) (ci := 9) ⟨hx, hb, hml, hown, hts⟩ (cwV 4 hts gX9_visits_X9_visits rfl rfl rfl (by decide +kernel) ⟨Nat.le_of_ble_eq_true rfl, Nat.le_of_ble_eq_true rfl⟩) hN hK hP [0, 1] rfl 0 rfl rfl rfl rfl hl.1 rfl (Nat.le_of_ble_eq_true rfl) dX9_visits_71 ⟨Nat.le_of_ble_eq_true rfl, Nat.le_of_ble_eq_true rfl⟩  (k_X9_visits_32 l D cI cJ cK m0 a_row a_tape a_number a_read a_readBits a_stands a_parted a_bitsWere a_stood a_chosen a_bestChosen a_often a_sorted a_risen a_risenWays m_thrown m_told m_taped m_at m_to m_many m_readMany m_fewest m_size mf (f + 32) a b (by first | assumption | omega | decide +kernel) (by first | assumption | omega | decide +kernel) (by first | assumption | omega | decide +kernel) (by first | assumption | omega | decide +kernel) (by first | assumption | omega | decide +kernel) (by first | assumption | omega | decide +kernel) (by first | assumption | omega | decide +kernel) (by first | assumption | omega | decide +kernel) (by first | assumption | omega | decide +kernel) (by first | assumption | omega | decide +kernel))) (fun r hp => ?_)
            obtain _ := hp
            obtain ⟨r_9, rfl⟩ : ∃ z, z = r := ⟨_, rfl⟩
            refine lv_iadd hx hb dX9_visits_74 ?_
            refine lv_topi (fun z_10 ez_10 => ?_)
            try have tz_10 : z_10.toInt = z_8.toInt + r_9.toInt := by rw [ez_10]; exact my_addI rfl rfl (by omega) (by omega)
            exact my_rpI hx hb hr hlocks (trivial) dX9_visits_75
          ·
            have d41 : z_1.toInt ≤ ((b : Nat) : Int) := my_ngt c41 rfl (nI_toInt (by omega))
            refine lv_iconst (v := 1) hx hb dX9_visits_44 (by decide +kernel) ?_
            exact my_rpI hx hb hr hlocks (trivial) dX9_visits_45
      ·
        have d27 : r_2.toInt = (0 : Int) := my_eq c27 rfl (by decide +kernel)
        refine lv_iconst (v := 0) hx hb dX9_visits_30 (by decide +kernel) ?_
        exact my_rpI hx hb hr hlocks (trivial) dX9_visits_31
set_option maxHeartbeats 4000000 in
set_option maxRecDepth 100000 in
theorem k_X9_visits_128 (l : Launch) (D : va_G) (cI cJ cK : ClassId) (m0 : Nat) (a_row : Nat) (a_tape : Nat) (a_number : Nat) (a_read : Nat) (a_readBits : Nat) (a_stands : Nat) (a_parted : Nat) (a_bitsWere : Nat) (a_stood : Nat) (a_chosen : Nat) (a_bestChosen : Nat) (a_often : Nat) (a_sorted : Nat) (a_risen : Nat) (a_risenWays : Nat) (m_thrown : Int32) (m_told : Nat) (m_taped : Nat) (m_at : Nat) (m_to : Nat) (m_many : Nat) (m_readMany : Nat) (m_fewest : Int32) (m_size : Nat) (mf : Nat → Int32) (f : Nat) (a : Nat) (b : Nat) (hz_m_told : m_told ≤ 64) (hz_m_taped : m_taped ≤ 100) (hz_m_at : m_at ≤ 100) (hz_m_to : m_to ≤ 100) (hz_m_many : m_many ≤ 64) (hz_m_readMany : m_readMany ≤ 64) (hz_m_size : m_size ≤ 64) (hf : f + 128 ≤ 256) (ha : a ≤ 255) (hb9 : b ≤ 255) : cpI l yX9_visits wsX9_visits ({ frames := 9, cells := 0, slots := 0, locals := 540 } : Room) D (tyIJ cI cJ cK) [.ref m0, .int (nI f), .int 128, .int (nI a), .int (nI b)] [(m0, .inr (9, [.int m_thrown, .int (nI m_told), .ref a_row, .ref a_tape, .int (nI m_taped), .int (nI m_at), .int (nI m_to), .int (nI m_many), .ref a_number, .ref a_read, .int (nI m_readMany), .ref a_readBits, .ref a_stands, .ref a_parted, .ref a_bitsWere, .ref a_stood, .ref a_chosen, .ref a_bestChosen, .int m_fewest, .ref a_often, .ref a_sorted, .int (nI m_size), .ref a_risen, .ref a_risenWays])), (a_often, .inl (cI, 512, .inl mf))] (fun (r : Int32) => True) := by
  refine cpI.of (cc := cX9_visits) (maxL := 6) (ret := (some .int)) (by decide) rfl (Nat.le_of_ble_eq_true rfl) ?_
  intro p e s m below meth c ls hx hb hr hts hown hml hlocks hname hK hN hP hl
  have hl : lv_has ls 6 [(0, .ref m0), (1, .int (nI f)), (2, .int 128), (3, .int (nI a)), (4, .int (nI b))] := hl
  have hown : s.vm.findClass RX9 = some m.cls := hown
  refine lv_iload_n hx hb dX9_visits_0 rfl (lv_at hl 1 rfl) ?_
  refine lv_iload_n hx hb dX9_visits_1 rfl (lv_at hl 2 rfl) ?_
  refine lv_iadd hx hb dX9_visits_2 ?_
  refine my_eqi (y := nI (f + 128)) (my_addN f 128) ?_
  refine lv_iconst (v := 1) hx hb dX9_visits_3 (by decide +kernel) ?_
  refine lv_isub hx hb dX9_visits_4 ?_
  refine lv_topi (fun z_1 ez_1 => ?_)
  try have tz_1 : z_1.toInt = ((f + 128 : Nat) : Int) - (1 : Int) := by rw [ez_1]; exact my_subI (nI_toInt (by omega)) (by decide +kernel) (by omega) (by omega)
  refine lv_istore (lv' := [(5, .int z_1), (0, .ref m0), (1, .int (nI f)), (2, .int 128), (3, .int (nI a)), (4, .int (nI b))]) hx hb dX9_visits_5 hl (by decide) rfl (fun ls hl => ?_)
  refine lv_iload_n hx hb dX9_visits_7 rfl (lv_at hl 2 rfl) ?_
  refine lv_iload hx hb dX9_visits_8 (lv_at hl 5 rfl) ?_
  refine lv_icmp_gt (tgt := 30) hx hb dX9_visits_10 (by decide) (fun c10 => ?_) (fun c10 => ?_)
  ·
    have d10 : ((f : Nat) : Int) > ((b : Nat) : Int) := my_gt c10 (nI_toInt (by omega)) (nI_toInt (by omega))
    refine lv_iconst (v := 0) hx hb dX9_visits_30 (by decide +kernel) ?_
    exact my_rpI hx hb hr hlocks (trivial) dX9_visits_31
  ·
    have d10 : ((f : Nat) : Int) ≤ ((b : Nat) : Int) := my_ngt c10 (nI_toInt (by omega)) (nI_toInt (by omega))
    refine lv_iload hx hb dX9_visits_13 (lv_at hl 0 rfl) ?_
    refine lv_iload_n hx hb dX9_visits_15 rfl (lv_at hl 4 rfl) ?_
    refine lv_icmp_lt (tgt := 30) hx hb dX9_visits_16 (by decide) (fun c16 => ?_) (fun c16 => ?_)
    ·
      have d16 : z_1.toInt < ((a : Nat) : Int) := my_lt c16 rfl (nI_toInt (by omega))
      refine lv_iconst (v := 0) hx hb dX9_visits_30 (by decide +kernel) ?_
      exact my_rpI hx hb hr hlocks (trivial) dX9_visits_31
    ·
      have d16 : z_1.toInt ≥ ((a : Nat) : Int) := my_nlt c16 rfl (nI_toInt (by omega))
      refine lv_aload_n hx hb dX9_visits_19 rfl (lv_at hl 1 rfl) ?_
      refine lv_iconst (v := 0) hx hb dX9_visits_20 (by decide +kernel) ?_
      refine lv_iload_n hx hb dX9_visits_21 rfl (lv_at hl 2 rfl) ?_
      refine lv_iload hx hb dX9_visits_22 (lv_at hl 0 rfl) ?_
      refine my_gpI (my_pV (As := [.int 0, .int (nI f), .int z_1]) (rest := []) (ci := 9) ⟨hx, hb, hml, hown, hts⟩ (cwV 3 hts gX9_visits_X9_within rfl rfl rfl (by decide +kernel) ⟨Nat.le_of_ble_eq_true rfl, Nat.le_of_ble_eq_true rfl⟩) hN hK hP [0, 1] rfl 0 rfl rfl rfl rfl hl.1 rfl (Nat.le_of_ble_eq_true rfl) dX9_visits_24 ⟨Nat.le_of_ble_eq_true rfl, Nat.le_of_ble_eq_true rfl⟩  (k0_X9_within l D cI cJ cK m0 a_row a_tape a_number a_read a_readBits a_stands a_parted a_bitsWere a_stood a_chosen a_bestChosen a_often a_sorted a_risen a_risenWays m_thrown m_told m_taped m_at m_to m_many m_readMany m_fewest m_size mf (nI f) ((f : Nat) : Int) (nI_toInt (by omega)) z_1 z_1.toInt rfl (by first | assumption | omega | decide +kernel) (by first | assumption | omega | decide +kernel) (by first | assumption | omega | decide +kernel) (by first | assumption | omega | decide +kernel) (by first | assumption | omega | decide +kernel) (by first | assumption | omega | decide +kernel) (by first | assumption | omega | decide +kernel) (by first | assumption | omega | decide +kernel))) (fun r hp => ?_)
      obtain _ := hp
      obtain ⟨r_2, rfl⟩ : ∃ z, z = r := ⟨_, rfl⟩
      refine lv_if_ne (tgt := 32) hx hb dX9_visits_27 (by decide) (fun c27 => ?_) (fun c27 => ?_)
      ·
        have d27 : r_2.toInt ≠ (0 : Int) := my_ne c27 rfl (by decide +kernel)
        refine lv_iload_n hx hb dX9_visits_32 rfl (lv_at hl 2 rfl) ?_
        refine lv_iload_n hx hb dX9_visits_33 rfl (lv_at hl 4 rfl) ?_
        refine lv_icmp_lt (tgt := 46) hx hb dX9_visits_34 (by decide) (fun c34 => ?_) (fun c34 => ?_)
        ·
          have d34 : ((f : Nat) : Int) < ((a : Nat) : Int) := my_lt c34 (nI_toInt (by omega)) (nI_toInt (by omega))
          refine lv_iconst (v := 1) hx hb dX9_visits_46 (by decide +kernel) ?_
          refine lv_aload_n hx hb dX9_visits_47 rfl (lv_at hl 1 rfl) ?_
          refine lv_iload_n hx hb dX9_visits_48 rfl (lv_at hl 2 rfl) ?_
          refine lv_iload_n hx hb dX9_visits_49 rfl (lv_at hl 3 rfl) ?_
          refine lv_iconst (v := 2) hx hb dX9_visits_50 (by decide +kernel) ?_
          refine lv_idiv hx hb dX9_visits_51 (by decide +kernel) ?_
          refine my_eqi (y := 64) (by decide +kernel) ?_
          refine lv_iload_n hx hb dX9_visits_52 rfl (lv_at hl 4 rfl) ?_
          refine lv_iload hx hb dX9_visits_53 (lv_at hl 5 rfl) ?_
          refine my_gpI (my_pV (As := [.int (nI f), .int 64, .int (nI a), .int (nI b)]) (rest := [.int 1]) (ci := 9) ⟨hx, hb, hml, hown, hts⟩ (cwV 4 hts gX9_visits_X9_visits rfl rfl rfl (by decide +kernel) ⟨Nat.le_of_ble_eq_true rfl, Nat.le_of_ble_eq_true rfl⟩) hN hK hP [0, 1] rfl 0 rfl rfl rfl rfl hl.1 rfl (Nat.le_of_ble_eq_true rfl) dX9_visits_55 ⟨Nat.le_of_ble_eq_true rfl, Nat.le_of_ble_eq_true rfl⟩  (k_X9_visits_64 l D cI cJ cK m0 a_row a_tape a_number a_read a_readBits a_stands a_parted a_bitsWere a_stood a_chosen a_bestChosen a_often a_sorted a_risen a_risenWays m_thrown m_told m_taped m_at m_to m_many m_readMany m_fewest m_size mf f a b (by first | assumption | omega | decide +kernel) (by first | assumption | omega | decide +kernel) (by first | assumption | omega | decide +kernel) (by first | assumption | omega | decide +kernel) (by first | assumption | omega | decide +kernel) (by first | assumption | omega | decide +kernel) (by first | assumption | omega | decide +kernel) (by first | assumption | omega | decide +kernel) (by first | assumption | omega | decide +kernel) (by first | assumption | omega | decide +kernel))) (fun r hp => ?_)
          obtain _ := hp
          obtain ⟨r_3, rfl⟩ : ∃ z, z = r := ⟨_, rfl⟩
          refine lv_iadd hx hb dX9_visits_58 ?_
          refine lv_topi (fun z_4 ez_4 => ?_)
          try have tz_4 : z_4.toInt = (1 : Int) + r_3.toInt := by rw [ez_4]; exact my_addI (by decide +kernel) rfl (by omega) (by omega)
          refine lv_aload_n hx hb dX9_visits_59 rfl (lv_at hl 1 rfl) ?_
          refine lv_iload_n hx hb dX9_visits_60 rfl (lv_at hl 2 rfl) ?_
          refine lv_iload_n hx hb dX9_visits_61 rfl (lv_at hl 3 rfl) ?_
          refine lv_iconst (v := 2) hx hb dX9_visits_62 (by decide +kernel) ?_
          refine lv_idiv hx hb dX9_visits_63 (by decide +kernel) ?_
          refine my_eqi (y := 64) (by decide +kernel) ?_
          refine lv_iadd hx hb dX9_visits_64 ?_
          refine my_eqi (y := nI (f + 64)) (my_addN f 64) ?_
          refine lv_iload_n hx hb dX9_visits_65 rfl (lv_at hl 3 rfl) ?_
          refine lv_iconst (v := 2) hx hb dX9_visits_66 (by decide +kernel) ?_
          refine lv_idiv hx hb dX9_visits_67 (by decide +kernel) ?_
          refine my_eqi (y := 64) (by decide +kernel) ?_
          refine lv_iload_n hx hb dX9_visits_68 rfl (lv_at hl 4 rfl) ?_
          refine lv_iload hx hb dX9_visits_69 (lv_at hl 5 rfl) ?_
          refine my_gpI (my_pV (As := [.int (nI (f + 64)), .int 64, .int (nI a), .int (nI b)]) (rest := [.int z_4]) (ci := 9) ⟨hx, hb, hml, hown, hts⟩ (cwV 4 hts gX9_visits_X9_visits rfl rfl rfl (by decide +kernel) ⟨Nat.le_of_ble_eq_true rfl, Nat.le_of_ble_eq_true rfl⟩) hN hK hP [0, 1] rfl 0 rfl rfl rfl rfl hl.1 rfl (Nat.le_of_ble_eq_true rfl) dX9_visits_71 ⟨Nat.le_of_ble_eq_true rfl, Nat.le_of_ble_eq_true rfl⟩  (k_X9_visits_64 l D cI cJ cK m0 a_row a_tape a_number a_read a_readBits a_stands a_parted a_bitsWere a_stood a_chosen a_bestChosen a_often a_sorted a_risen a_risenWays m_thrown m_told m_taped m_at m_to m_many m_readMany m_fewest m_size mf (f + 64) a b (by first | assumption | omega | decide +kernel) (by first | assumption | omega | decide +kernel) (by first | assumption | omega | decide +kernel) (by first | assumption | omega | decide +kernel) (by first | assumption | omega | decide +kernel) (by first | assumption | omega | decide +kernel) (by first | assumption | omega | decide +kernel) (by first | assumption | omega | decide +kernel) (by first | assumption | omega | decide +kernel) (by first | assumption | omega | decide +kernel))) (fun r hp => ?_)
          obtain _ := hp
          obtain ⟨r_5, rfl⟩ : ∃ z, z = r := ⟨_, rfl⟩
          refine lv_iadd hx hb dX9_visits_74 ?_
          refine lv_topi (fun z_6 ez_6 => ?_)
          try have tz_6 : z_6.toInt = z_4.toInt + r_5.toInt := by rw [ez_6]; exact my_addI rfl rfl (by omega) (by omega)
          exact my_rpI hx hb hr hlocks (trivial) dX9_visits_75
        ·
          have d34 : ((f : Nat) : Int) ≥ ((a : Nat) : Int) := my_nlt c34 (nI_toInt (by omega)) (nI_toInt (by omega))
          refine lv_iload hx hb dX9_visits_37 (lv_at hl 0 rfl) ?_
          refine lv_iload hx hb dX9_visits_39 (lv_at hl 5 rfl) ?_
          refine lv_icmp_gt (tgt := 46) hx hb dX9_visits_41 (by decide) (fun c41 => ?_) (fun c41 => ?_)
          ·
            have d41 : z_1.toInt > ((b : Nat) : Int) := my_gt c41 rfl (nI_toInt (by omega))
            refine lv_iconst (v := 1) hx hb dX9_visits_46 (by decide +kernel) ?_
            refine lv_aload_n hx hb dX9_visits_47 rfl (lv_at hl 1 rfl) ?_
            refine lv_iload_n hx hb dX9_visits_48 rfl (lv_at hl 2 rfl) ?_
            refine lv_iload_n hx hb dX9_visits_49 rfl (lv_at hl 3 rfl) ?_
            refine lv_iconst (v := 2) hx hb dX9_visits_50 (by decide +kernel) ?_
            refine lv_idiv hx hb dX9_visits_51 (by decide +kernel) ?_
            refine my_eqi (y := 64) (by decide +kernel) ?_
            refine lv_iload_n hx hb dX9_visits_52 rfl (lv_at hl 4 rfl) ?_
            refine lv_iload hx hb dX9_visits_53 (lv_at hl 5 rfl) ?_
            refine my_gpI (my_pV (As := [.int (nI f), .int 64, .int (nI a), .int (nI b)]) (rest := [.int 1]) (ci := 9) ⟨hx, hb, hml, hown, hts⟩ (cwV 4 hts gX9_visits_X9_visits rfl rfl rfl (by decide +kernel) ⟨Nat.le_of_ble_eq_true rfl, Nat.le_of_ble_eq_true rfl⟩) hN hK hP [0, 1] rfl 0 rfl rfl rfl rfl hl.1 rfl (Nat.le_of_ble_eq_true rfl) dX9_visits_55 ⟨Nat.le_of_ble_eq_true rfl, Nat.le_of_ble_eq_true rfl⟩  (k_X9_visits_64 l D cI cJ cK m0 a_row a_tape a_number a_read a_readBits a_stands a_parted a_bitsWere a_stood a_chosen a_bestChosen a_often a_sorted a_risen a_risenWays m_thrown m_told m_taped m_at m_to m_many m_readMany m_fewest m_size mf f a b (by first | assumption | omega | decide +kernel) (by first | assumption | omega | decide +kernel) (by first | assumption | omega | decide +kernel) (by first | assumption | omega | decide +kernel) (by first | assumption | omega | decide +kernel) (by first | assumption | omega | decide +kernel) (by first | assumption | omega | decide +kernel) (by first | assumption | omega | decide +kernel) (by first | assumption | omega | decide +kernel) (by first | assumption | omega | decide +kernel))) (fun r hp => ?_)
            obtain _ := hp
            obtain ⟨r_7, rfl⟩ : ∃ z, z = r := ⟨_, rfl⟩
            refine lv_iadd hx hb dX9_visits_58 ?_
            refine lv_topi (fun z_8 ez_8 => ?_)
            try have tz_8 : z_8.toInt = (1 : Int) + r_7.toInt := by rw [ez_8]; exact my_addI (by decide +kernel) rfl (by omega) (by omega)
            refine lv_aload_n hx hb dX9_visits_59 rfl (lv_at hl 1 rfl) ?_
            refine lv_iload_n hx hb dX9_visits_60 rfl (lv_at hl 2 rfl) ?_
            refine lv_iload_n hx hb dX9_visits_61 rfl (lv_at hl 3 rfl) ?_
            refine lv_iconst (v := 2) hx hb dX9_visits_62 (by decide +kernel) ?_
            refine lv_idiv hx hb dX9_visits_63 (by decide +kernel) ?_
            refine my_eqi (y := 64) (by decide +kernel) ?_
            refine lv_iadd hx hb dX9_visits_64 ?_
            refine my_eqi (y := nI (f + 64)) (my_addN f 64) ?_
            refine lv_iload_n hx hb dX9_visits_65 rfl (lv_at hl 3 rfl) ?_
            refine lv_iconst (v := 2) hx hb dX9_visits_66 (by decide +kernel) ?_
            refine lv_idiv hx hb dX9_visits_67 (by decide +kernel) ?_
            refine my_eqi (y := 64) (by decide +kernel) ?_
            refine lv_iload_n hx hb dX9_visits_68 rfl (lv_at hl 4 rfl) ?_
            refine lv_iload hx hb dX9_visits_69 (lv_at hl 5 rfl) ?_
            refine my_gpI (my_pV (As := [.int (nI (f + 64)), .int 64, .int (nI a), .int (nI b)]) (rest := [.int z_8]) (ci := 9) ⟨hx, hb, hml, hown, hts⟩ (cwV 4 hts gX9_visits_X9_visits rfl rfl rfl (by decide +kernel) ⟨Nat.le_of_ble_eq_true rfl, Nat.le_of_ble_eq_true rfl⟩) hN hK hP [0, 1] rfl 0 rfl rfl rfl rfl hl.1 rfl (Nat.le_of_ble_eq_true rfl) dX9_visits_71 ⟨Nat.le_of_ble_eq_true rfl, Nat.le_of_ble_eq_true rfl⟩  (k_X9_visits_64 l D cI cJ cK m0 a_row a_tape a_number a_read a_readBits a_stands a_parted a_bitsWere a_stood a_chosen a_bestChosen a_often a_sorted a_risen a_risenWays m_thrown m_told m_taped m_at m_to m_many m_readMany m_fewest m_size mf (f + 64) a b (by first | assumption | omega | decide +kernel) (by first | assumption | omega | decide +kernel) (by first | assumption | omega | decide +kernel) (by first | assumption | omega | decide +kernel) (by first | assumption | omega | decide +kernel) (by first | assumption | omega | decide +kernel) (by first | assumption | omega | decide +kernel) (by first | assumption | omega | decide +kernel) (by first | assumption | omega | decide +kernel) (by first | assumption | omega | decide +kernel))) (fun r hp => ?_)
            obtain _ := hp
            obtain ⟨r_9, rfl⟩ : ∃ z, z = r := ⟨_, rfl⟩
            refine lv_iadd hx hb dX9_visits_74 ?_
            refine lv_topi (fun z_10 ez_10 => ?_)
            try have tz_10 : z_10.toInt = z_8.toInt + r_9.toInt := by rw [ez_10]; exact my_addI rfl rfl (by omega) (by omega)
            exact my_rpI hx hb hr hlocks (trivial) dX9_visits_75
          ·
            have d41 : z_1.toInt ≤ ((b : Nat) : Int) := my_ngt c41 rfl (nI_toInt (by omega))
            refine lv_iconst (v := 1) hx hb dX9_visits_44 (by decide +kernel) ?_
            exact my_rpI hx hb hr hlocks (trivial) dX9_visits_45
      ·
        have d27 : r_2.toInt = (0 : Int) := my_eq c27 rfl (by decide +kernel)
        refine lv_iconst (v := 0) hx hb dX9_visits_30 (by decide +kernel) ?_
        exact my_rpI hx hb hr hlocks (trivial) dX9_visits_31
set_option maxHeartbeats 4000000 in
set_option maxRecDepth 100000 in
theorem k_X9_visits_256 (l : Launch) (D : va_G) (cI cJ cK : ClassId) (m0 : Nat) (a_row : Nat) (a_tape : Nat) (a_number : Nat) (a_read : Nat) (a_readBits : Nat) (a_stands : Nat) (a_parted : Nat) (a_bitsWere : Nat) (a_stood : Nat) (a_chosen : Nat) (a_bestChosen : Nat) (a_often : Nat) (a_sorted : Nat) (a_risen : Nat) (a_risenWays : Nat) (m_thrown : Int32) (m_told : Nat) (m_taped : Nat) (m_at : Nat) (m_to : Nat) (m_many : Nat) (m_readMany : Nat) (m_fewest : Int32) (m_size : Nat) (mf : Nat → Int32) (f : Nat) (a : Nat) (b : Nat) (hz_m_told : m_told ≤ 64) (hz_m_taped : m_taped ≤ 100) (hz_m_at : m_at ≤ 100) (hz_m_to : m_to ≤ 100) (hz_m_many : m_many ≤ 64) (hz_m_readMany : m_readMany ≤ 64) (hz_m_size : m_size ≤ 64) (hf : f + 256 ≤ 256) (ha : a ≤ 255) (hb9 : b ≤ 255) : cpI l yX9_visits wsX9_visits ({ frames := 10, cells := 0, slots := 0, locals := 600 } : Room) D (tyIJ cI cJ cK) [.ref m0, .int (nI f), .int 256, .int (nI a), .int (nI b)] [(m0, .inr (9, [.int m_thrown, .int (nI m_told), .ref a_row, .ref a_tape, .int (nI m_taped), .int (nI m_at), .int (nI m_to), .int (nI m_many), .ref a_number, .ref a_read, .int (nI m_readMany), .ref a_readBits, .ref a_stands, .ref a_parted, .ref a_bitsWere, .ref a_stood, .ref a_chosen, .ref a_bestChosen, .int m_fewest, .ref a_often, .ref a_sorted, .int (nI m_size), .ref a_risen, .ref a_risenWays])), (a_often, .inl (cI, 512, .inl mf))] (fun (r : Int32) => True) := by
  refine cpI.of (cc := cX9_visits) (maxL := 6) (ret := (some .int)) (by decide) rfl (Nat.le_of_ble_eq_true rfl) ?_
  intro p e s m below meth c ls hx hb hr hts hown hml hlocks hname hK hN hP hl
  have hl : lv_has ls 6 [(0, .ref m0), (1, .int (nI f)), (2, .int 256), (3, .int (nI a)), (4, .int (nI b))] := hl
  have hown : s.vm.findClass RX9 = some m.cls := hown
  refine lv_iload_n hx hb dX9_visits_0 rfl (lv_at hl 1 rfl) ?_
  refine lv_iload_n hx hb dX9_visits_1 rfl (lv_at hl 2 rfl) ?_
  refine lv_iadd hx hb dX9_visits_2 ?_
  refine my_eqi (y := nI (f + 256)) (my_addN f 256) ?_
  refine lv_iconst (v := 1) hx hb dX9_visits_3 (by decide +kernel) ?_
  refine lv_isub hx hb dX9_visits_4 ?_
  refine lv_topi (fun z_1 ez_1 => ?_)
  try have tz_1 : z_1.toInt = ((f + 256 : Nat) : Int) - (1 : Int) := by rw [ez_1]; exact my_subI (nI_toInt (by omega)) (by decide +kernel) (by omega) (by omega)
  refine lv_istore (lv' := [(5, .int z_1), (0, .ref m0), (1, .int (nI f)), (2, .int 256), (3, .int (nI a)), (4, .int (nI b))]) hx hb dX9_visits_5 hl (by decide) rfl (fun ls hl => ?_)
  refine lv_iload_n hx hb dX9_visits_7 rfl (lv_at hl 2 rfl) ?_
  refine lv_iload hx hb dX9_visits_8 (lv_at hl 5 rfl) ?_
  refine lv_icmp_gt (tgt := 30) hx hb dX9_visits_10 (by decide) (fun c10 => ?_) (fun c10 => ?_)
  ·
    have d10 : ((f : Nat) : Int) > ((b : Nat) : Int) := my_gt c10 (nI_toInt (by omega)) (nI_toInt (by omega))
    refine lv_iconst (v := 0) hx hb dX9_visits_30 (by decide +kernel) ?_
    exact my_rpI hx hb hr hlocks (trivial) dX9_visits_31
  ·
    have d10 : ((f : Nat) : Int) ≤ ((b : Nat) : Int) := my_ngt c10 (nI_toInt (by omega)) (nI_toInt (by omega))
    refine lv_iload hx hb dX9_visits_13 (lv_at hl 0 rfl) ?_
    refine lv_iload_n hx hb dX9_visits_15 rfl (lv_at hl 4 rfl) ?_
    refine lv_icmp_lt (tgt := 30) hx hb dX9_visits_16 (by decide) (fun c16 => ?_) (fun c16 => ?_)
    ·
      have d16 : z_1.toInt < ((a : Nat) : Int) := my_lt c16 rfl (nI_toInt (by omega))
      refine lv_iconst (v := 0) hx hb dX9_visits_30 (by decide +kernel) ?_
      exact my_rpI hx hb hr hlocks (trivial) dX9_visits_31
    ·
      have d16 : z_1.toInt ≥ ((a : Nat) : Int) := my_nlt c16 rfl (nI_toInt (by omega))
      refine lv_aload_n hx hb dX9_visits_19 rfl (lv_at hl 1 rfl) ?_
      refine lv_iconst (v := 0) hx hb dX9_visits_20 (by decide +kernel) ?_
      refine lv_iload_n hx hb dX9_visits_21 rfl (lv_at hl 2 rfl) ?_
      refine lv_iload hx hb dX9_visits_22 (lv_at hl 0 rfl) ?_
      refine my_gpI (my_pV (As := [.int 0, .int (nI f), .int z_1]) (rest := []) (ci := 9) ⟨hx, hb, hml, hown, hts⟩ (cwV 3 hts gX9_visits_X9_within rfl rfl rfl (by decide +kernel) ⟨Nat.le_of_ble_eq_true rfl, Nat.le_of_ble_eq_true rfl⟩) hN hK hP [0, 1] rfl 0 rfl rfl rfl rfl hl.1 rfl (Nat.le_of_ble_eq_true rfl) dX9_visits_24 ⟨Nat.le_of_ble_eq_true rfl, Nat.le_of_ble_eq_true rfl⟩  (k0_X9_within l D cI cJ cK m0 a_row a_tape a_number a_read a_readBits a_stands a_parted a_bitsWere a_stood a_chosen a_bestChosen a_often a_sorted a_risen a_risenWays m_thrown m_told m_taped m_at m_to m_many m_readMany m_fewest m_size mf (nI f) ((f : Nat) : Int) (nI_toInt (by omega)) z_1 z_1.toInt rfl (by first | assumption | omega | decide +kernel) (by first | assumption | omega | decide +kernel) (by first | assumption | omega | decide +kernel) (by first | assumption | omega | decide +kernel) (by first | assumption | omega | decide +kernel) (by first | assumption | omega | decide +kernel) (by first | assumption | omega | decide +kernel) (by first | assumption | omega | decide +kernel))) (fun r hp => ?_)
      obtain _ := hp
      obtain ⟨r_2, rfl⟩ : ∃ z, z = r := ⟨_, rfl⟩
      refine lv_if_ne (tgt := 32) hx hb dX9_visits_27 (by decide) (fun c27 => ?_) (fun c27 => ?_)
      ·
        have d27 : r_2.toInt ≠ (0 : Int) := my_ne c27 rfl (by decide +kernel)
        refine lv_iload_n hx hb dX9_visits_32 rfl (lv_at hl 2 rfl) ?_
        refine lv_iload_n hx hb dX9_visits_33 rfl (lv_at hl 4 rfl) ?_
        refine lv_icmp_lt (tgt := 46) hx hb dX9_visits_34 (by decide) (fun c34 => ?_) (fun c34 => ?_)
        ·
          have d34 : ((f : Nat) : Int) < ((a : Nat) : Int) := my_lt c34 (nI_toInt (by omega)) (nI_toInt (by omega))
          refine lv_iconst (v := 1) hx hb dX9_visits_46 (by decide +kernel) ?_
          refine lv_aload_n hx hb dX9_visits_47 rfl (lv_at hl 1 rfl) ?_
          refine lv_iload_n hx hb dX9_visits_48 rfl (lv_at hl 2 rfl) ?_
          refine lv_iload_n hx hb dX9_visits_49 rfl (lv_at hl 3 rfl) ?_
          refine lv_iconst (v := 2) hx hb dX9_visits_50 (by decide +kernel) ?_
          refine lv_idiv hx hb dX9_visits_51 (by decide +kernel) ?_
          refine my_eqi (y := 128) (by decide +kernel) ?_
          refine lv_iload_n hx hb dX9_visits_52 rfl (lv_at hl 4 rfl) ?_
          refine lv_iload hx hb dX9_visits_53 (lv_at hl 5 rfl) ?_
          refine my_gpI (my_pV (As := [.int (nI f), .int 128, .int (nI a), .int (nI b)]) (rest := [.int 1]) (ci := 9) ⟨hx, hb, hml, hown, hts⟩ (cwV 4 hts gX9_visits_X9_visits rfl rfl rfl (by decide +kernel) ⟨Nat.le_of_ble_eq_true rfl, Nat.le_of_ble_eq_true rfl⟩) hN hK hP [0, 1] rfl 0 rfl rfl rfl rfl hl.1 rfl (Nat.le_of_ble_eq_true rfl) dX9_visits_55 ⟨Nat.le_of_ble_eq_true rfl, Nat.le_of_ble_eq_true rfl⟩  (k_X9_visits_128 l D cI cJ cK m0 a_row a_tape a_number a_read a_readBits a_stands a_parted a_bitsWere a_stood a_chosen a_bestChosen a_often a_sorted a_risen a_risenWays m_thrown m_told m_taped m_at m_to m_many m_readMany m_fewest m_size mf f a b (by first | assumption | omega | decide +kernel) (by first | assumption | omega | decide +kernel) (by first | assumption | omega | decide +kernel) (by first | assumption | omega | decide +kernel) (by first | assumption | omega | decide +kernel) (by first | assumption | omega | decide +kernel) (by first | assumption | omega | decide +kernel) (by first | assumption | omega | decide +kernel) (by first | assumption | omega | decide +kernel) (by first | assumption | omega | decide +kernel))) (fun r hp => ?_)
          obtain _ := hp
          obtain ⟨r_3, rfl⟩ : ∃ z, z = r := ⟨_, rfl⟩
          refine lv_iadd hx hb dX9_visits_58 ?_
          refine lv_topi (fun z_4 ez_4 => ?_)
          try have tz_4 : z_4.toInt = (1 : Int) + r_3.toInt := by rw [ez_4]; exact my_addI (by decide +kernel) rfl (by omega) (by omega)
          refine lv_aload_n hx hb dX9_visits_59 rfl (lv_at hl 1 rfl) ?_
          refine lv_iload_n hx hb dX9_visits_60 rfl (lv_at hl 2 rfl) ?_
          refine lv_iload_n hx hb dX9_visits_61 rfl (lv_at hl 3 rfl) ?_
          refine lv_iconst (v := 2) hx hb dX9_visits_62 (by decide +kernel) ?_
          refine lv_idiv hx hb dX9_visits_63 (by decide +kernel) ?_
          refine my_eqi (y := 128) (by decide +kernel) ?_
          refine lv_iadd hx hb dX9_visits_64 ?_
          refine my_eqi (y := nI (f + 128)) (my_addN f 128) ?_
          refine lv_iload_n hx hb dX9_visits_65 rfl (lv_at hl 3 rfl) ?_
          refine lv_iconst (v := 2) hx hb dX9_visits_66 (by decide +kernel) ?_
          refine lv_idiv hx hb dX9_visits_67 (by decide +kernel) ?_
          refine my_eqi (y := 128) (by decide +kernel) ?_
          refine lv_iload_n hx hb dX9_visits_68 rfl (lv_at hl 4 rfl) ?_
          refine lv_iload hx hb dX9_visits_69 (lv_at hl 5 rfl) ?_
          refine my_gpI (my_pV (As := [.int (nI (f + 128)), .int 128, .int (nI a), .int (nI b)]) (rest := [.int z_4]) (ci := 9) ⟨hx, hb, hml, hown, hts⟩ (cwV 4 hts gX9_visits_X9_visits rfl rfl rfl (by decide +kernel) ⟨Nat.le_of_ble_eq_true rfl, Nat.le_of_ble_eq_true rfl⟩) hN hK hP [0, 1] rfl 0 rfl rfl rfl rfl hl.1 rfl (Nat.le_of_ble_eq_true rfl) dX9_visits_71 ⟨Nat.le_of_ble_eq_true rfl, Nat.le_of_ble_eq_true rfl⟩  (k_X9_visits_128 l D cI cJ cK m0 a_row a_tape a_number a_read a_readBits a_stands a_parted a_bitsWere a_stood a_chosen a_bestChosen a_often a_sorted a_risen a_risenWays m_thrown m_told m_taped m_at m_to m_many m_readMany m_fewest m_size mf (f + 128) a b (by first | assumption | omega | decide +kernel) (by first | assumption | omega | decide +kernel) (by first | assumption | omega | decide +kernel) (by first | assumption | omega | decide +kernel) (by first | assumption | omega | decide +kernel) (by first | assumption | omega | decide +kernel) (by first | assumption | omega | decide +kernel) (by first | assumption | omega | decide +kernel) (by first | assumption | omega | decide +kernel) (by first | assumption | omega | decide +kernel))) (fun r hp => ?_)
          obtain _ := hp
          obtain ⟨r_5, rfl⟩ : ∃ z, z = r := ⟨_, rfl⟩
          refine lv_iadd hx hb dX9_visits_74 ?_
          refine lv_topi (fun z_6 ez_6 => ?_)
          try have tz_6 : z_6.toInt = z_4.toInt + r_5.toInt := by rw [ez_6]; exact my_addI rfl rfl (by omega) (by omega)
          exact my_rpI hx hb hr hlocks (trivial) dX9_visits_75
        ·
          have d34 : ((f : Nat) : Int) ≥ ((a : Nat) : Int) := my_nlt c34 (nI_toInt (by omega)) (nI_toInt (by omega))
          refine lv_iload hx hb dX9_visits_37 (lv_at hl 0 rfl) ?_
          refine lv_iload hx hb dX9_visits_39 (lv_at hl 5 rfl) ?_
          refine lv_icmp_gt (tgt := 46) hx hb dX9_visits_41 (by decide) (fun c41 => ?_) (fun c41 => ?_)
          ·
            have d41 : z_1.toInt > ((b : Nat) : Int) := my_gt c41 rfl (nI_toInt (by omega))
            refine lv_iconst (v := 1) hx hb dX9_visits_46 (by decide +kernel) ?_
            refine lv_aload_n hx hb dX9_visits_47 rfl (lv_at hl 1 rfl) ?_
            refine lv_iload_n hx hb dX9_visits_48 rfl (lv_at hl 2 rfl) ?_
            refine lv_iload_n hx hb dX9_visits_49 rfl (lv_at hl 3 rfl) ?_
            refine lv_iconst (v := 2) hx hb dX9_visits_50 (by decide +kernel) ?_
            refine lv_idiv hx hb dX9_visits_51 (by decide +kernel) ?_
            refine my_eqi (y := 128) (by decide +kernel) ?_
            refine lv_iload_n hx hb dX9_visits_52 rfl (lv_at hl 4 rfl) ?_
            refine lv_iload hx hb dX9_visits_53 (lv_at hl 5 rfl) ?_
            refine my_gpI (my_pV (As := [.int (nI f), .int 128, .int (nI a), .int (nI b)]) (rest := [.int 1]) (ci := 9) ⟨hx, hb, hml, hown, hts⟩ (cwV 4 hts gX9_visits_X9_visits rfl rfl rfl (by decide +kernel) ⟨Nat.le_of_ble_eq_true rfl, Nat.le_of_ble_eq_true rfl⟩) hN hK hP [0, 1] rfl 0 rfl rfl rfl rfl hl.1 rfl (Nat.le_of_ble_eq_true rfl) dX9_visits_55 ⟨Nat.le_of_ble_eq_true rfl, Nat.le_of_ble_eq_true rfl⟩  (k_X9_visits_128 l D cI cJ cK m0 a_row a_tape a_number a_read a_readBits a_stands a_parted a_bitsWere a_stood a_chosen a_bestChosen a_often a_sorted a_risen a_risenWays m_thrown m_told m_taped m_at m_to m_many m_readMany m_fewest m_size mf f a b (by first | assumption | omega | decide +kernel) (by first | assumption | omega | decide +kernel) (by first | assumption | omega | decide +kernel) (by first | assumption | omega | decide +kernel) (by first | assumption | omega | decide +kernel) (by first | assumption | omega | decide +kernel) (by first | assumption | omega | decide +kernel) (by first | assumption | omega | decide +kernel) (by first | assumption | omega | decide +kernel) (by first | assumption | omega | decide +kernel))) (fun r hp => ?_)
            obtain _ := hp
            obtain ⟨r_7, rfl⟩ : ∃ z, z = r := ⟨_, rfl⟩
            refine lv_iadd hx hb dX9_visits_58 ?_
            refine lv_topi (fun z_8 ez_8 => ?_)
            try have tz_8 : z_8.toInt = (1 : Int) + r_7.toInt := by rw [ez_8]; exact my_addI (by decide +kernel) rfl (by omega) (by omega)
            refine lv_aload_n hx hb dX9_visits_59 rfl (lv_at hl 1 rfl) ?_
            refine lv_iload_n hx hb dX9_visits_60 rfl (lv_at hl 2 rfl) ?_
            refine lv_iload_n hx hb dX9_visits_61 rfl (lv_at hl 3 rfl) ?_
            refine lv_iconst (v := 2) hx hb dX9_visits_62 (by decide +kernel) ?_
            refine lv_idiv hx hb dX9_visits_63 (by decide +kernel) ?_
            refine my_eqi (y := 128) (by decide +kernel) ?_
            refine lv_iadd hx hb dX9_visits_64 ?_
            refine my_eqi (y := nI (f + 128)) (my_addN f 128) ?_
            refine lv_iload_n hx hb dX9_visits_65 rfl (lv_at hl 3 rfl) ?_
            refine lv_iconst (v := 2) hx hb dX9_visits_66 (by decide +kernel) ?_
            refine lv_idiv hx hb dX9_visits_67 (by decide +kernel) ?_
            refine my_eqi (y := 128) (by decide +kernel) ?_
            refine lv_iload_n hx hb dX9_visits_68 rfl (lv_at hl 4 rfl) ?_
            refine lv_iload hx hb dX9_visits_69 (lv_at hl 5 rfl) ?_
            refine my_gpI (my_pV (As := [.int (nI (f + 128)), .int 128, .int (nI a), .int (nI b)]) (rest := [.int z_8]) (ci := 9) ⟨hx, hb, hml, hown, hts⟩ (cwV 4 hts gX9_visits_X9_visits rfl rfl rfl (by decide +kernel) ⟨Nat.le_of_ble_eq_true rfl, Nat.le_of_ble_eq_true rfl⟩) hN hK hP [0, 1] rfl 0 rfl rfl rfl rfl hl.1 rfl (Nat.le_of_ble_eq_true rfl) dX9_visits_71 ⟨Nat.le_of_ble_eq_true rfl, Nat.le_of_ble_eq_true rfl⟩  (k_X9_visits_128 l D cI cJ cK m0 a_row a_tape a_number a_read a_readBits a_stands a_parted a_bitsWere a_stood a_chosen a_bestChosen a_often a_sorted a_risen a_risenWays m_thrown m_told m_taped m_at m_to m_many m_readMany m_fewest m_size mf (f + 128) a b (by first | assumption | omega | decide +kernel) (by first | assumption | omega | decide +kernel) (by first | assumption | omega | decide +kernel) (by first | assumption | omega | decide +kernel) (by first | assumption | omega | decide +kernel) (by first | assumption | omega | decide +kernel) (by first | assumption | omega | decide +kernel) (by first | assumption | omega | decide +kernel) (by first | assumption | omega | decide +kernel) (by first | assumption | omega | decide +kernel))) (fun r hp => ?_)
            obtain _ := hp
            obtain ⟨r_9, rfl⟩ : ∃ z, z = r := ⟨_, rfl⟩
            refine lv_iadd hx hb dX9_visits_74 ?_
            refine lv_topi (fun z_10 ez_10 => ?_)
            try have tz_10 : z_10.toInt = z_8.toInt + r_9.toInt := by rw [ez_10]; exact my_addI rfl rfl (by omega) (by omega)
            exact my_rpI hx hb hr hlocks (trivial) dX9_visits_75
          ·
            have d41 : z_1.toInt ≤ ((b : Nat) : Int) := my_ngt c41 rfl (nI_toInt (by omega))
            refine lv_iconst (v := 1) hx hb dX9_visits_44 (by decide +kernel) ?_
            exact my_rpI hx hb hr hlocks (trivial) dX9_visits_45
      ·
        have d27 : r_2.toInt = (0 : Int) := my_eq c27 rfl (by decide +kernel)
        refine lv_iconst (v := 0) hx hb dX9_visits_30 (by decide +kernel) ?_
        exact my_rpI hx hb hr hlocks (trivial) dX9_visits_31
set_option maxHeartbeats 4000000 in
set_option maxRecDepth 100000 in
theorem k0_X9_nodes (l : Launch) (D : va_G) (cI cJ cK : ClassId) (m0 : Nat) (a_row : Nat) (a_tape : Nat) (a_number : Nat) (a_read : Nat) (a_readBits : Nat) (a_stands : Nat) (a_parted : Nat) (a_bitsWere : Nat) (a_stood : Nat) (a_chosen : Nat) (a_bestChosen : Nat) (a_often : Nat) (a_sorted : Nat) (a_risen : Nat) (a_risenWays : Nat) (m_thrown : Int32) (m_told : Nat) (m_taped : Nat) (m_at : Nat) (m_to : Nat) (m_many : Nat) (m_readMany : Nat) (m_fewest : Int32) (m_size : Nat) (mf : Nat → Int32) (m9 : Int32) (hz_m_told : m_told ≤ 64) (hz_m_taped : m_taped ≤ 100) (hz_m_at : m_at ≤ 100) (hz_m_to : m_to ≤ 100) (hz_m_many : m_many ≤ 64) (hz_m_readMany : m_readMany ≤ 64) (hz_m_size : m_size ≤ 64) : cpI l yX9_nodes wsX9_nodes ({ frames := 2, cells := 0, slots := 0, locals := 120 } : Room) D (tyIJ cI cJ cK) [.ref m0, .int m9, .int 0] [(m0, .inr (9, [.int m_thrown, .int (nI m_told), .ref a_row, .ref a_tape, .int (nI m_taped), .int (nI m_at), .int (nI m_to), .int (nI m_many), .ref a_number, .ref a_read, .int (nI m_readMany), .ref a_readBits, .ref a_stands, .ref a_parted, .ref a_bitsWere, .ref a_stood, .ref a_chosen, .ref a_bestChosen, .int m_fewest, .ref a_often, .ref a_sorted, .int (nI m_size), .ref a_risen, .ref a_risenWays])), (a_often, .inl (cI, 512, .inl mf))] (fun (r : Int32) => True) := by
  refine cpI.of (cc := cX9_nodes) (maxL := 7) (ret := (some .int)) (by decide) rfl (Nat.le_of_ble_eq_true rfl) ?_
  intro p e s m below meth c ls hx hb hr hts hown hml hlocks hname hK hN hP hl
  have hl : lv_has ls 7 [(0, .ref m0), (1, .int m9), (2, .int 0)] := hl
  have hown : s.vm.findClass RX9 = some m.cls := hown
  refine lv_iconst (v := 0) hx hb dX9_nodes_0 (by decide +kernel) ?_
  refine lv_istore_n (lv' := [(3, .int 0), (0, .ref m0), (1, .int m9), (2, .int 0)]) hx hb dX9_nodes_1 rfl hl (by decide) rfl (fun ls hl => ?_)
  refine lv_sipush (v := 256) hx hb dX9_nodes_2 (by decide +kernel) ?_
  refine lv_istore (lv' := [(4, .int 256), (3, .int 0), (0, .ref m0), (1, .int m9), (2, .int 0)]) hx hb dX9_nodes_5 hl (by decide) rfl (fun ls hl => ?_)
  refine lv_iload hx hb dX9_nodes_7 (lv_at hl 0 rfl) ?_
  refine lv_if_le (tgt := 97) hx hb dX9_nodes_9 (by decide) (fun c9 => ?_) (fun c9 => ?_)
  ·
    exact absurd c9 (by decide +kernel)
  ·
    refine lv_iconst (v := 0) hx hb dX9_nodes_12 (by decide +kernel) ?_
    refine lv_istore (lv' := [(5, .int 0), (4, .int 256), (3, .int 0), (0, .ref m0), (1, .int m9), (2, .int 0)]) hx hb dX9_nodes_13 hl (by decide) rfl (fun ls hl => ?_)
    have loop15 : ∀ (n9 : Nat) (f : Nat) (y3_15 : Int32), 512 - f < n9 → (f ≤ 511) → ∀ (ls : Array Slot), lv_has ls 7 [(5, .int (nI f)), (4, .int 256), (3, .int y3_15), (0, .ref m0), (1, .int m9), (2, .int 0)] → W p l e ({ frames := 2, cells := 0, slots := 0, locals := 120 } : Room) s m [.ref m0, .int m9, .int 0].toArray below meth c s.heap [] 0 0 (MQ below (vp_Si (fun (r : Int32) => True)) [.ref m0, .int m9, .int 0].toArray s 0 0 (fun _ => False)) (F0 m 15 ls []) := by
      intro n9
      induction n9 with
      | zero =>
        intro f y3_15 hn9
        exact absurd hn9 (Nat.not_lt_zero _)
      | succ n9 ih15 =>
        intro f y3_15 hn9 hk_f ls hl
        refine lv_iload hx hb dX9_nodes_15 (lv_at hl 0 rfl) ?_
        refine lv_sipush (v := 256) hx hb dX9_nodes_17 (by decide +kernel) ?_
        refine lv_icmp_ge (tgt := 88) hx hb dX9_nodes_20 (by decide) (fun c20 => ?_) (fun c20 => ?_)
        ·
          have d20 : ((f : Nat) : Int) ≥ (256 : Int) := my_ge c20 (nI_toInt (by omega)) (by decide +kernel)
          refine lv_iload hx hb dX9_nodes_88 (lv_at hl 1 rfl) ?_
          refine lv_iconst (v := 2) hx hb dX9_nodes_90 (by decide +kernel) ?_
          refine lv_idiv hx hb dX9_nodes_91 (by decide +kernel) ?_
          refine my_eqi (y := 128) (by decide +kernel) ?_
          refine lv_istore (lv' := [(4, .int 128), (5, .int (nI f)), (3, .int y3_15), (0, .ref m0), (1, .int m9), (2, .int 0)]) hx hb dX9_nodes_92 hl (by decide) rfl (fun ls hl => ?_)
          refine lv_goto (tgt := 7) hx hb dX9_nodes_94 (by decide) ?_
          refine lv_iload hx hb dX9_nodes_7 (lv_at hl 0 rfl) ?_
          refine lv_if_le (tgt := 97) hx hb dX9_nodes_9 (by decide) (fun c9 => ?_) (fun c9 => ?_)
          ·
            exact absurd c9 (by decide +kernel)
          ·
            refine lv_iconst (v := 0) hx hb dX9_nodes_12 (by decide +kernel) ?_
            refine lv_istore (lv' := [(5, .int 0), (4, .int 128), (3, .int y3_15), (0, .ref m0), (1, .int m9), (2, .int 0)]) hx hb dX9_nodes_13 hl (by decide) rfl (fun ls hl => ?_)
            have loop15 : ∀ (n9 : Nat) (f : Nat) (y3_15 : Int32), 512 - f < n9 → (f ≤ 511) → ∀ (ls : Array Slot), lv_has ls 7 [(5, .int (nI f)), (4, .int 128), (3, .int y3_15), (0, .ref m0), (1, .int m9), (2, .int 0)] → W p l e ({ frames := 2, cells := 0, slots := 0, locals := 120 } : Room) s m [.ref m0, .int m9, .int 0].toArray below meth c s.heap [] 0 0 (MQ below (vp_Si (fun (r : Int32) => True)) [.ref m0, .int m9, .int 0].toArray s 0 0 (fun _ => False)) (F0 m 15 ls []) := by
              intro n9
              induction n9 with
              | zero =>
                intro f y3_15 hn9
                exact absurd hn9 (Nat.not_lt_zero _)
              | succ n9 ih15 =>
                intro f y3_15 hn9 hk_f ls hl
                refine lv_iload hx hb dX9_nodes_15 (lv_at hl 0 rfl) ?_
                refine lv_sipush (v := 256) hx hb dX9_nodes_17 (by decide +kernel) ?_
                refine lv_icmp_ge (tgt := 88) hx hb dX9_nodes_20 (by decide) (fun c20 => ?_) (fun c20 => ?_)
                ·
                  have d20 : ((f : Nat) : Int) ≥ (256 : Int) := my_ge c20 (nI_toInt (by omega)) (by decide +kernel)
                  refine lv_iload hx hb dX9_nodes_88 (lv_at hl 1 rfl) ?_
                  refine lv_iconst (v := 2) hx hb dX9_nodes_90 (by decide +kernel) ?_
                  refine lv_idiv hx hb dX9_nodes_91 (by decide +kernel) ?_
                  refine my_eqi (y := 64) (by decide +kernel) ?_
                  refine lv_istore (lv' := [(4, .int 64), (5, .int (nI f)), (3, .int y3_15), (0, .ref m0), (1, .int m9), (2, .int 0)]) hx hb dX9_nodes_92 hl (by decide) rfl (fun ls hl => ?_)
                  refine lv_goto (tgt := 7) hx hb dX9_nodes_94 (by decide) ?_
                  refine lv_iload hx hb dX9_nodes_7 (lv_at hl 0 rfl) ?_
                  refine lv_if_le (tgt := 97) hx hb dX9_nodes_9 (by decide) (fun c9 => ?_) (fun c9 => ?_)
                  ·
                    exact absurd c9 (by decide +kernel)
                  ·
                    refine lv_iconst (v := 0) hx hb dX9_nodes_12 (by decide +kernel) ?_
                    refine lv_istore (lv' := [(5, .int 0), (4, .int 64), (3, .int y3_15), (0, .ref m0), (1, .int m9), (2, .int 0)]) hx hb dX9_nodes_13 hl (by decide) rfl (fun ls hl => ?_)
                    have loop15 : ∀ (n9 : Nat) (f : Nat) (y3_15 : Int32), 512 - f < n9 → (f ≤ 511) → ∀ (ls : Array Slot), lv_has ls 7 [(5, .int (nI f)), (4, .int 64), (3, .int y3_15), (0, .ref m0), (1, .int m9), (2, .int 0)] → W p l e ({ frames := 2, cells := 0, slots := 0, locals := 120 } : Room) s m [.ref m0, .int m9, .int 0].toArray below meth c s.heap [] 0 0 (MQ below (vp_Si (fun (r : Int32) => True)) [.ref m0, .int m9, .int 0].toArray s 0 0 (fun _ => False)) (F0 m 15 ls []) := by
                      intro n9
                      induction n9 with
                      | zero =>
                        intro f y3_15 hn9
                        exact absurd hn9 (Nat.not_lt_zero _)
                      | succ n9 ih15 =>
                        intro f y3_15 hn9 hk_f ls hl
                        refine lv_iload hx hb dX9_nodes_15 (lv_at hl 0 rfl) ?_
                        refine lv_sipush (v := 256) hx hb dX9_nodes_17 (by decide +kernel) ?_
                        refine lv_icmp_ge (tgt := 88) hx hb dX9_nodes_20 (by decide) (fun c20 => ?_) (fun c20 => ?_)
                        ·
                          have d20 : ((f : Nat) : Int) ≥ (256 : Int) := my_ge c20 (nI_toInt (by omega)) (by decide +kernel)
                          refine lv_iload hx hb dX9_nodes_88 (lv_at hl 1 rfl) ?_
                          refine lv_iconst (v := 2) hx hb dX9_nodes_90 (by decide +kernel) ?_
                          refine lv_idiv hx hb dX9_nodes_91 (by decide +kernel) ?_
                          refine my_eqi (y := 32) (by decide +kernel) ?_
                          refine lv_istore (lv' := [(4, .int 32), (5, .int (nI f)), (3, .int y3_15), (0, .ref m0), (1, .int m9), (2, .int 0)]) hx hb dX9_nodes_92 hl (by decide) rfl (fun ls hl => ?_)
                          refine lv_goto (tgt := 7) hx hb dX9_nodes_94 (by decide) ?_
                          refine lv_iload hx hb dX9_nodes_7 (lv_at hl 0 rfl) ?_
                          refine lv_if_le (tgt := 97) hx hb dX9_nodes_9 (by decide) (fun c9 => ?_) (fun c9 => ?_)
                          ·
                            exact absurd c9 (by decide +kernel)
                          ·
                            refine lv_iconst (v := 0) hx hb dX9_nodes_12 (by decide +kernel) ?_
                            refine lv_istore (lv' := [(5, .int 0), (4, .int 32), (3, .int y3_15), (0, .ref m0), (1, .int m9), (2, .int 0)]) hx hb dX9_nodes_13 hl (by decide) rfl (fun ls hl => ?_)
                            have loop15 : ∀ (n9 : Nat) (f : Nat) (y3_15 : Int32), 512 - f < n9 → (f ≤ 511) → ∀ (ls : Array Slot), lv_has ls 7 [(5, .int (nI f)), (4, .int 32), (3, .int y3_15), (0, .ref m0), (1, .int m9), (2, .int 0)] → W p l e ({ frames := 2, cells := 0, slots := 0, locals := 120 } : Room) s m [.ref m0, .int m9, .int 0].toArray below meth c s.heap [] 0 0 (MQ below (vp_Si (fun (r : Int32) => True)) [.ref m0, .int m9, .int 0].toArray s 0 0 (fun _ => False)) (F0 m 15 ls []) := by
                              intro n9
                              induction n9 with
                              | zero =>
                                intro f y3_15 hn9
                                exact absurd hn9 (Nat.not_lt_zero _)
                              | succ n9 ih15 =>
                                intro f y3_15 hn9 hk_f ls hl
                                refine lv_iload hx hb dX9_nodes_15 (lv_at hl 0 rfl) ?_
                                refine lv_sipush (v := 256) hx hb dX9_nodes_17 (by decide +kernel) ?_
                                refine lv_icmp_ge (tgt := 88) hx hb dX9_nodes_20 (by decide) (fun c20 => ?_) (fun c20 => ?_)
                                ·
                                  have d20 : ((f : Nat) : Int) ≥ (256 : Int) := my_ge c20 (nI_toInt (by omega)) (by decide +kernel)
                                  refine lv_iload hx hb dX9_nodes_88 (lv_at hl 1 rfl) ?_
                                  refine lv_iconst (v := 2) hx hb dX9_nodes_90 (by decide +kernel) ?_
                                  refine lv_idiv hx hb dX9_nodes_91 (by decide +kernel) ?_
                                  refine my_eqi (y := 16) (by decide +kernel) ?_
                                  refine lv_istore (lv' := [(4, .int 16), (5, .int (nI f)), (3, .int y3_15), (0, .ref m0), (1, .int m9), (2, .int 0)]) hx hb dX9_nodes_92 hl (by decide) rfl (fun ls hl => ?_)
                                  refine lv_goto (tgt := 7) hx hb dX9_nodes_94 (by decide) ?_
                                  refine lv_iload hx hb dX9_nodes_7 (lv_at hl 0 rfl) ?_
                                  refine lv_if_le (tgt := 97) hx hb dX9_nodes_9 (by decide) (fun c9 => ?_) (fun c9 => ?_)
                                  ·
                                    exact absurd c9 (by decide +kernel)
                                  ·
                                    refine lv_iconst (v := 0) hx hb dX9_nodes_12 (by decide +kernel) ?_
                                    refine lv_istore (lv' := [(5, .int 0), (4, .int 16), (3, .int y3_15), (0, .ref m0), (1, .int m9), (2, .int 0)]) hx hb dX9_nodes_13 hl (by decide) rfl (fun ls hl => ?_)
                                    have loop15 : ∀ (n9 : Nat) (f : Nat) (y3_15 : Int32), 512 - f < n9 → (f ≤ 511) → ∀ (ls : Array Slot), lv_has ls 7 [(5, .int (nI f)), (4, .int 16), (3, .int y3_15), (0, .ref m0), (1, .int m9), (2, .int 0)] → W p l e ({ frames := 2, cells := 0, slots := 0, locals := 120 } : Room) s m [.ref m0, .int m9, .int 0].toArray below meth c s.heap [] 0 0 (MQ below (vp_Si (fun (r : Int32) => True)) [.ref m0, .int m9, .int 0].toArray s 0 0 (fun _ => False)) (F0 m 15 ls []) := by
                                      intro n9
                                      induction n9 with
                                      | zero =>
                                        intro f y3_15 hn9
                                        exact absurd hn9 (Nat.not_lt_zero _)
                                      | succ n9 ih15 =>
                                        intro f y3_15 hn9 hk_f ls hl
                                        refine lv_iload hx hb dX9_nodes_15 (lv_at hl 0 rfl) ?_
                                        refine lv_sipush (v := 256) hx hb dX9_nodes_17 (by decide +kernel) ?_
                                        refine lv_icmp_ge (tgt := 88) hx hb dX9_nodes_20 (by decide) (fun c20 => ?_) (fun c20 => ?_)
                                        ·
                                          have d20 : ((f : Nat) : Int) ≥ (256 : Int) := my_ge c20 (nI_toInt (by omega)) (by decide +kernel)
                                          refine lv_iload hx hb dX9_nodes_88 (lv_at hl 1 rfl) ?_
                                          refine lv_iconst (v := 2) hx hb dX9_nodes_90 (by decide +kernel) ?_
                                          refine lv_idiv hx hb dX9_nodes_91 (by decide +kernel) ?_
                                          refine my_eqi (y := 8) (by decide +kernel) ?_
                                          refine lv_istore (lv' := [(4, .int 8), (5, .int (nI f)), (3, .int y3_15), (0, .ref m0), (1, .int m9), (2, .int 0)]) hx hb dX9_nodes_92 hl (by decide) rfl (fun ls hl => ?_)
                                          refine lv_goto (tgt := 7) hx hb dX9_nodes_94 (by decide) ?_
                                          refine lv_iload hx hb dX9_nodes_7 (lv_at hl 0 rfl) ?_
                                          refine lv_if_le (tgt := 97) hx hb dX9_nodes_9 (by decide) (fun c9 => ?_) (fun c9 => ?_)
                                          ·
                                            exact absurd c9 (by decide +kernel)
                                          ·
                                            refine lv_iconst (v := 0) hx hb dX9_nodes_12 (by decide +kernel) ?_
                                            refine lv_istore (lv' := [(5, .int 0), (4, .int 8), (3, .int y3_15), (0, .ref m0), (1, .int m9), (2, .int 0)]) hx hb dX9_nodes_13 hl (by decide) rfl (fun ls hl => ?_)
                                            have loop15 : ∀ (n9 : Nat) (f : Nat) (y3_15 : Int32), 512 - f < n9 → (f ≤ 511) → ∀ (ls : Array Slot), lv_has ls 7 [(5, .int (nI f)), (4, .int 8), (3, .int y3_15), (0, .ref m0), (1, .int m9), (2, .int 0)] → W p l e ({ frames := 2, cells := 0, slots := 0, locals := 120 } : Room) s m [.ref m0, .int m9, .int 0].toArray below meth c s.heap [] 0 0 (MQ below (vp_Si (fun (r : Int32) => True)) [.ref m0, .int m9, .int 0].toArray s 0 0 (fun _ => False)) (F0 m 15 ls []) := by
                                              intro n9
                                              induction n9 with
                                              | zero =>
                                                intro f y3_15 hn9
                                                exact absurd hn9 (Nat.not_lt_zero _)
                                              | succ n9 ih15 =>
                                                intro f y3_15 hn9 hk_f ls hl
                                                refine lv_iload hx hb dX9_nodes_15 (lv_at hl 0 rfl) ?_
                                                refine lv_sipush (v := 256) hx hb dX9_nodes_17 (by decide +kernel) ?_
                                                refine lv_icmp_ge (tgt := 88) hx hb dX9_nodes_20 (by decide) (fun c20 => ?_) (fun c20 => ?_)
                                                ·
                                                  have d20 : ((f : Nat) : Int) ≥ (256 : Int) := my_ge c20 (nI_toInt (by omega)) (by decide +kernel)
                                                  refine lv_iload hx hb dX9_nodes_88 (lv_at hl 1 rfl) ?_
                                                  refine lv_iconst (v := 2) hx hb dX9_nodes_90 (by decide +kernel) ?_
                                                  refine lv_idiv hx hb dX9_nodes_91 (by decide +kernel) ?_
                                                  refine my_eqi (y := 4) (by decide +kernel) ?_
                                                  refine lv_istore (lv' := [(4, .int 4), (5, .int (nI f)), (3, .int y3_15), (0, .ref m0), (1, .int m9), (2, .int 0)]) hx hb dX9_nodes_92 hl (by decide) rfl (fun ls hl => ?_)
                                                  refine lv_goto (tgt := 7) hx hb dX9_nodes_94 (by decide) ?_
                                                  refine lv_iload hx hb dX9_nodes_7 (lv_at hl 0 rfl) ?_
                                                  refine lv_if_le (tgt := 97) hx hb dX9_nodes_9 (by decide) (fun c9 => ?_) (fun c9 => ?_)
                                                  ·
                                                    exact absurd c9 (by decide +kernel)
                                                  ·
                                                    refine lv_iconst (v := 0) hx hb dX9_nodes_12 (by decide +kernel) ?_
                                                    refine lv_istore (lv' := [(5, .int 0), (4, .int 4), (3, .int y3_15), (0, .ref m0), (1, .int m9), (2, .int 0)]) hx hb dX9_nodes_13 hl (by decide) rfl (fun ls hl => ?_)
                                                    have loop15 : ∀ (n9 : Nat) (f : Nat) (y3_15 : Int32), 512 - f < n9 → (f ≤ 511) → ∀ (ls : Array Slot), lv_has ls 7 [(5, .int (nI f)), (4, .int 4), (3, .int y3_15), (0, .ref m0), (1, .int m9), (2, .int 0)] → W p l e ({ frames := 2, cells := 0, slots := 0, locals := 120 } : Room) s m [.ref m0, .int m9, .int 0].toArray below meth c s.heap [] 0 0 (MQ below (vp_Si (fun (r : Int32) => True)) [.ref m0, .int m9, .int 0].toArray s 0 0 (fun _ => False)) (F0 m 15 ls []) := by
                                                      intro n9
                                                      induction n9 with
                                                      | zero =>
                                                        intro f y3_15 hn9
                                                        exact absurd hn9 (Nat.not_lt_zero _)
                                                      | succ n9 ih15 =>
                                                        intro f y3_15 hn9 hk_f ls hl
                                                        refine lv_iload hx hb dX9_nodes_15 (lv_at hl 0 rfl) ?_
                                                        refine lv_sipush (v := 256) hx hb dX9_nodes_17 (by decide +kernel) ?_
                                                        refine lv_icmp_ge (tgt := 88) hx hb dX9_nodes_20 (by decide) (fun c20 => ?_) (fun c20 => ?_)
                                                        ·
                                                          have d20 : ((f : Nat) : Int) ≥ (256 : Int) := my_ge c20 (nI_toInt (by omega)) (by decide +kernel)
                                                          refine lv_iload hx hb dX9_nodes_88 (lv_at hl 1 rfl) ?_
                                                          refine lv_iconst (v := 2) hx hb dX9_nodes_90 (by decide +kernel) ?_
                                                          refine lv_idiv hx hb dX9_nodes_91 (by decide +kernel) ?_
                                                          refine my_eqi (y := 2) (by decide +kernel) ?_
                                                          refine lv_istore (lv' := [(4, .int 2), (5, .int (nI f)), (3, .int y3_15), (0, .ref m0), (1, .int m9), (2, .int 0)]) hx hb dX9_nodes_92 hl (by decide) rfl (fun ls hl => ?_)
                                                          refine lv_goto (tgt := 7) hx hb dX9_nodes_94 (by decide) ?_
                                                          refine lv_iload hx hb dX9_nodes_7 (lv_at hl 0 rfl) ?_
                                                          refine lv_if_le (tgt := 97) hx hb dX9_nodes_9 (by decide) (fun c9 => ?_) (fun c9 => ?_)
                                                          ·
                                                            exact absurd c9 (by decide +kernel)
                                                          ·
                                                            refine lv_iconst (v := 0) hx hb dX9_nodes_12 (by decide +kernel) ?_
                                                            refine lv_istore (lv' := [(5, .int 0), (4, .int 2), (3, .int y3_15), (0, .ref m0), (1, .int m9), (2, .int 0)]) hx hb dX9_nodes_13 hl (by decide) rfl (fun ls hl => ?_)
                                                            have loop15 : ∀ (n9 : Nat) (f : Nat) (y3_15 : Int32), 512 - f < n9 → (f ≤ 511) → ∀ (ls : Array Slot), lv_has ls 7 [(5, .int (nI f)), (4, .int 2), (3, .int y3_15), (0, .ref m0), (1, .int m9), (2, .int 0)] → W p l e ({ frames := 2, cells := 0, slots := 0, locals := 120 } : Room) s m [.ref m0, .int m9, .int 0].toArray below meth c s.heap [] 0 0 (MQ below (vp_Si (fun (r : Int32) => True)) [.ref m0, .int m9, .int 0].toArray s 0 0 (fun _ => False)) (F0 m 15 ls []) := by
                                                              intro n9
                                                              induction n9 with
                                                              | zero =>
                                                                intro f y3_15 hn9
                                                                exact absurd hn9 (Nat.not_lt_zero _)
                                                              | succ n9 ih15 =>
                                                                intro f y3_15 hn9 hk_f ls hl
                                                                refine lv_iload hx hb dX9_nodes_15 (lv_at hl 0 rfl) ?_
                                                                refine lv_sipush (v := 256) hx hb dX9_nodes_17 (by decide +kernel) ?_
                                                                refine lv_icmp_ge (tgt := 88) hx hb dX9_nodes_20 (by decide) (fun c20 => ?_) (fun c20 => ?_)
                                                                ·
                                                                  have d20 : ((f : Nat) : Int) ≥ (256 : Int) := my_ge c20 (nI_toInt (by omega)) (by decide +kernel)
                                                                  refine lv_iload hx hb dX9_nodes_88 (lv_at hl 1 rfl) ?_
                                                                  refine lv_iconst (v := 2) hx hb dX9_nodes_90 (by decide +kernel) ?_
                                                                  refine lv_idiv hx hb dX9_nodes_91 (by decide +kernel) ?_
                                                                  refine my_eqi (y := 1) (by decide +kernel) ?_
                                                                  refine lv_istore (lv' := [(4, .int 1), (5, .int (nI f)), (3, .int y3_15), (0, .ref m0), (1, .int m9), (2, .int 0)]) hx hb dX9_nodes_92 hl (by decide) rfl (fun ls hl => ?_)
                                                                  refine lv_goto (tgt := 7) hx hb dX9_nodes_94 (by decide) ?_
                                                                  refine lv_iload hx hb dX9_nodes_7 (lv_at hl 0 rfl) ?_
                                                                  refine lv_if_le (tgt := 97) hx hb dX9_nodes_9 (by decide) (fun c9 => ?_) (fun c9 => ?_)
                                                                  ·
                                                                    exact absurd c9 (by decide +kernel)
                                                                  ·
                                                                    refine lv_iconst (v := 0) hx hb dX9_nodes_12 (by decide +kernel) ?_
                                                                    refine lv_istore (lv' := [(5, .int 0), (4, .int 1), (3, .int y3_15), (0, .ref m0), (1, .int m9), (2, .int 0)]) hx hb dX9_nodes_13 hl (by decide) rfl (fun ls hl => ?_)
                                                                    have loop15 : ∀ (n9 : Nat) (f : Nat) (y3_15 : Int32), 512 - f < n9 → (f ≤ 511) → ∀ (ls : Array Slot), lv_has ls 7 [(5, .int (nI f)), (4, .int 1), (3, .int y3_15), (0, .ref m0), (1, .int m9), (2, .int 0)] → W p l e ({ frames := 2, cells := 0, slots := 0, locals := 120 } : Room) s m [.ref m0, .int m9, .int 0].toArray below meth c s.heap [] 0 0 (MQ below (vp_Si (fun (r : Int32) => True)) [.ref m0, .int m9, .int 0].toArray s 0 0 (fun _ => False)) (F0 m 15 ls []) := by
                                                                      intro n9
                                                                      induction n9 with
                                                                      | zero =>
                                                                        intro f y3_15 hn9
                                                                        exact absurd hn9 (Nat.not_lt_zero _)
                                                                      | succ n9 ih15 =>
                                                                        intro f y3_15 hn9 hk_f ls hl
                                                                        refine lv_iload hx hb dX9_nodes_15 (lv_at hl 0 rfl) ?_
                                                                        refine lv_sipush (v := 256) hx hb dX9_nodes_17 (by decide +kernel) ?_
                                                                        refine lv_icmp_ge (tgt := 88) hx hb dX9_nodes_20 (by decide) (fun c20 => ?_) (fun c20 => ?_)
                                                                        ·
                                                                          have d20 : ((f : Nat) : Int) ≥ (256 : Int) := my_ge c20 (nI_toInt (by omega)) (by decide +kernel)
                                                                          refine lv_iload hx hb dX9_nodes_88 (lv_at hl 1 rfl) ?_
                                                                          refine lv_iconst (v := 2) hx hb dX9_nodes_90 (by decide +kernel) ?_
                                                                          refine lv_idiv hx hb dX9_nodes_91 (by decide +kernel) ?_
                                                                          refine my_eqi (y := 0) (by decide +kernel) ?_
                                                                          refine lv_istore (lv' := [(4, .int 0), (5, .int (nI f)), (3, .int y3_15), (0, .ref m0), (1, .int m9), (2, .int 0)]) hx hb dX9_nodes_92 hl (by decide) rfl (fun ls hl => ?_)
                                                                          refine lv_goto (tgt := 7) hx hb dX9_nodes_94 (by decide) ?_
                                                                          refine lv_iload hx hb dX9_nodes_7 (lv_at hl 0 rfl) ?_
                                                                          refine lv_if_le (tgt := 97) hx hb dX9_nodes_9 (by decide) (fun c9 => ?_) (fun c9 => ?_)
                                                                          ·
                                                                            refine lv_iload_n hx hb dX9_nodes_97 rfl (lv_at hl 2 rfl) ?_
                                                                            exact my_rpI hx hb hr hlocks (trivial) dX9_nodes_98
                                                                          ·
                                                                            exact absurd c9 (by decide +kernel)
                                                                        ·
                                                                          have d20 : ((f : Nat) : Int) < (256 : Int) := my_nge c20 (nI_toInt (by omega)) (by decide +kernel)
                                                                          refine lv_aload_n hx hb dX9_nodes_23 rfl (lv_at hl 3 rfl) ?_
                                                                          refine lv_iconst (v := 0) hx hb dX9_nodes_24 (by decide +kernel) ?_
                                                                          refine lv_iload hx hb dX9_nodes_25 (lv_at hl 0 rfl) ?_
                                                                          refine lv_iload hx hb dX9_nodes_27 (lv_at hl 0 rfl) ?_
                                                                          refine lv_iload hx hb dX9_nodes_29 (lv_at hl 1 rfl) ?_
                                                                          refine lv_iadd hx hb dX9_nodes_31 ?_
                                                                          refine my_eqi (y := nI (f + 1)) (my_addN f 1) ?_
                                                                          refine lv_iconst (v := 1) hx hb dX9_nodes_32 (by decide +kernel) ?_
                                                                          refine lv_isub hx hb dX9_nodes_33 ?_
                                                                          refine lv_topi (fun z_1 ez_1 => ?_)
                                                                          try have tz_1 : z_1.toInt = ((f + 1 : Nat) : Int) - (1 : Int) := by rw [ez_1]; exact my_subI (nI_toInt (by omega)) (by decide +kernel) (by omega) (by omega)
                                                                          refine my_gpI (my_pV (As := [.int 0, .int (nI f), .int z_1]) (rest := []) (ci := 9) ⟨hx, hb, hml, hown, hts⟩ (cwV 3 hts gX9_nodes_X9_within rfl rfl rfl (by decide +kernel) ⟨Nat.le_of_ble_eq_true rfl, Nat.le_of_ble_eq_true rfl⟩) hN hK hP [0, 1] rfl 0 rfl rfl rfl rfl hl.1 rfl (Nat.le_of_ble_eq_true rfl) dX9_nodes_34 ⟨Nat.le_of_ble_eq_true rfl, Nat.le_of_ble_eq_true rfl⟩  (k0_X9_within l D cI cJ cK m0 a_row a_tape a_number a_read a_readBits a_stands a_parted a_bitsWere a_stood a_chosen a_bestChosen a_often a_sorted a_risen a_risenWays m_thrown m_told m_taped m_at m_to m_many m_readMany m_fewest m_size mf (nI f) ((f : Nat) : Int) (nI_toInt (by omega)) z_1 z_1.toInt rfl (by first | assumption | omega | decide +kernel) (by first | assumption | omega | decide +kernel) (by first | assumption | omega | decide +kernel) (by first | assumption | omega | decide +kernel) (by first | assumption | omega | decide +kernel) (by first | assumption | omega | decide +kernel) (by first | assumption | omega | decide +kernel) (by first | assumption | omega | decide +kernel))) (fun r hp => ?_)
                                                                          obtain _ := hp
                                                                          obtain ⟨r_2, rfl⟩ : ∃ z, z = r := ⟨_, rfl⟩
                                                                          refine lv_istore (lv' := [(6, .int r_2), (5, .int (nI f)), (4, .int 1), (3, .int y3_15), (0, .ref m0), (1, .int m9), (2, .int 0)]) hx hb dX9_nodes_37 hl (by decide) rfl (fun ls hl => ?_)
                                                                          refine lv_iload_n hx hb dX9_nodes_39 rfl (lv_at hl 3 rfl) ?_
                                                                          refine lv_iload hx hb dX9_nodes_40 (lv_at hl 0 rfl) ?_
                                                                          refine lv_iload_n hx hb dX9_nodes_42 rfl (lv_at hl 5 rfl) ?_
                                                                          refine lv_icmp_lt (tgt := 72) hx hb dX9_nodes_43 (by decide) (fun c43 => ?_) (fun c43 => ?_)
                                                                          ·
                                                                            have d43 : r_2.toInt < m9.toInt := my_lt c43 rfl rfl
                                                                            refine lv_iconst (v := 0) hx hb dX9_nodes_72 (by decide +kernel) ?_
                                                                            refine my_gpI (my_pS (As := [.int 0]) (rest := [.int y3_15]) ⟨hx, hb, hml, hown, hts⟩ (va_cwS 1 hts gX9_nodes_X9_flag rfl rfl rfl (by decide +kernel) ⟨Nat.le_of_ble_eq_true rfl, Nat.le_of_ble_eq_true rfl⟩) hN hK hP [] rfl rfl hl.1 rfl (Nat.le_of_ble_eq_true rfl) dX9_nodes_73 ⟨Nat.le_of_ble_eq_true rfl, Nat.le_of_ble_eq_true rfl⟩  (k0_X9_flag l D cI cJ cK )) (fun r hp => ?_)
                                                                            obtain rfl := hp
                                                                            refine lv_iadd hx hb dX9_nodes_76 ?_
                                                                            refine lv_topi (fun z_3 ez_3 => ?_)
                                                                            try have tz_3 : z_3.toInt = y3_15.toInt + (0 : Int) := by rw [ez_3]; exact my_addI rfl (by decide +kernel) (by omega) (by omega)
                                                                            refine lv_istore_n (lv' := [(3, .int z_3), (6, .int r_2), (5, .int (nI f)), (4, .int 1), (0, .ref m0), (1, .int m9), (2, .int 0)]) hx hb dX9_nodes_77 rfl hl (by decide) rfl (fun ls hl => ?_)
                                                                            refine lv_iload hx hb dX9_nodes_78 (lv_at hl 2 rfl) ?_
                                                                            refine lv_iload hx hb dX9_nodes_80 (lv_at hl 3 rfl) ?_
                                                                            refine lv_iadd hx hb dX9_nodes_82 ?_
                                                                            refine my_eqi (y := nI (f + 1)) (my_addN f 1) ?_
                                                                            refine lv_istore (lv' := [(5, .int (nI (f + 1))), (3, .int z_3), (6, .int r_2), (4, .int 1), (0, .ref m0), (1, .int m9), (2, .int 0)]) hx hb dX9_nodes_83 hl (by decide) rfl (fun ls hl => ?_)
                                                                            refine lv_goto (tgt := 15) hx hb dX9_nodes_85 (by decide) ?_
                                                                            exact ih15  (f + 1) z_3 (by omega) (by first | assumption | omega | decide +kernel) ls (lv_sub hl [0, 3, 1, 4, 5, 6] rfl)
                                                                          ·
                                                                            have d43 : r_2.toInt ≥ m9.toInt := my_nlt c43 rfl rfl
                                                                            refine lv_iload_n hx hb dX9_nodes_46 rfl (lv_at hl 6 rfl) ?_
                                                                            refine lv_if_eq (tgt := 68) hx hb dX9_nodes_47 (by decide) (fun c47 => ?_) (fun c47 => ?_)
                                                                            ·
                                                                              refine lv_iconst (v := 1) hx hb dX9_nodes_68 (by decide +kernel) ?_
                                                                              refine lv_goto (tgt := 73) hx hb dX9_nodes_69 (by decide) ?_
                                                                              refine my_gpI (my_pS (As := [.int 1]) (rest := [.int y3_15]) ⟨hx, hb, hml, hown, hts⟩ (va_cwS 1 hts gX9_nodes_X9_flag rfl rfl rfl (by decide +kernel) ⟨Nat.le_of_ble_eq_true rfl, Nat.le_of_ble_eq_true rfl⟩) hN hK hP [] rfl rfl hl.1 rfl (Nat.le_of_ble_eq_true rfl) dX9_nodes_73 ⟨Nat.le_of_ble_eq_true rfl, Nat.le_of_ble_eq_true rfl⟩  (k1_X9_flag l D cI cJ cK )) (fun r hp => ?_)
                                                                              obtain rfl := hp
                                                                              refine lv_iadd hx hb dX9_nodes_76 ?_
                                                                              refine lv_topi (fun z_4 ez_4 => ?_)
                                                                              try have tz_4 : z_4.toInt = y3_15.toInt + (1 : Int) := by rw [ez_4]; exact my_addI rfl (by decide +kernel) (by omega) (by omega)
                                                                              refine lv_istore_n (lv' := [(3, .int z_4), (6, .int r_2), (5, .int (nI f)), (4, .int 1), (0, .ref m0), (1, .int m9), (2, .int 0)]) hx hb dX9_nodes_77 rfl hl (by decide) rfl (fun ls hl => ?_)
                                                                              refine lv_iload hx hb dX9_nodes_78 (lv_at hl 2 rfl) ?_
                                                                              refine lv_iload hx hb dX9_nodes_80 (lv_at hl 3 rfl) ?_
                                                                              refine lv_iadd hx hb dX9_nodes_82 ?_
                                                                              refine my_eqi (y := nI (f + 1)) (my_addN f 1) ?_
                                                                              refine lv_istore (lv' := [(5, .int (nI (f + 1))), (3, .int z_4), (6, .int r_2), (4, .int 1), (0, .ref m0), (1, .int m9), (2, .int 0)]) hx hb dX9_nodes_83 hl (by decide) rfl (fun ls hl => ?_)
                                                                              refine lv_goto (tgt := 15) hx hb dX9_nodes_85 (by decide) ?_
                                                                              exact ih15  (f + 1) z_4 (by omega) (by first | assumption | omega | decide +kernel) ls (lv_sub hl [0, 3, 1, 4, 5, 6] rfl)
                                                                            ·
                                                                              exact absurd c47 (by decide +kernel)
                                                                    exact loop15 ((512 - 0) + 1) 0 y3_15 (Nat.lt_succ_self _) (by first | assumption | omega | decide +kernel) ls (lv_sub hl [0, 1, 2, 3, 4, 5] rfl)
                                                                ·
                                                                  have d20 : ((f : Nat) : Int) < (256 : Int) := my_nge c20 (nI_toInt (by omega)) (by decide +kernel)
                                                                  refine lv_aload_n hx hb dX9_nodes_23 rfl (lv_at hl 3 rfl) ?_
                                                                  refine lv_iconst (v := 0) hx hb dX9_nodes_24 (by decide +kernel) ?_
                                                                  refine lv_iload hx hb dX9_nodes_25 (lv_at hl 0 rfl) ?_
                                                                  refine lv_iload hx hb dX9_nodes_27 (lv_at hl 0 rfl) ?_
                                                                  refine lv_iload hx hb dX9_nodes_29 (lv_at hl 1 rfl) ?_
                                                                  refine lv_iadd hx hb dX9_nodes_31 ?_
                                                                  refine my_eqi (y := nI (f + 2)) (my_addN f 2) ?_
                                                                  refine lv_iconst (v := 1) hx hb dX9_nodes_32 (by decide +kernel) ?_
                                                                  refine lv_isub hx hb dX9_nodes_33 ?_
                                                                  refine lv_topi (fun z_5 ez_5 => ?_)
                                                                  try have tz_5 : z_5.toInt = ((f + 2 : Nat) : Int) - (1 : Int) := by rw [ez_5]; exact my_subI (nI_toInt (by omega)) (by decide +kernel) (by omega) (by omega)
                                                                  refine my_gpI (my_pV (As := [.int 0, .int (nI f), .int z_5]) (rest := []) (ci := 9) ⟨hx, hb, hml, hown, hts⟩ (cwV 3 hts gX9_nodes_X9_within rfl rfl rfl (by decide +kernel) ⟨Nat.le_of_ble_eq_true rfl, Nat.le_of_ble_eq_true rfl⟩) hN hK hP [0, 1] rfl 0 rfl rfl rfl rfl hl.1 rfl (Nat.le_of_ble_eq_true rfl) dX9_nodes_34 ⟨Nat.le_of_ble_eq_true rfl, Nat.le_of_ble_eq_true rfl⟩  (k0_X9_within l D cI cJ cK m0 a_row a_tape a_number a_read a_readBits a_stands a_parted a_bitsWere a_stood a_chosen a_bestChosen a_often a_sorted a_risen a_risenWays m_thrown m_told m_taped m_at m_to m_many m_readMany m_fewest m_size mf (nI f) ((f : Nat) : Int) (nI_toInt (by omega)) z_5 z_5.toInt rfl (by first | assumption | omega | decide +kernel) (by first | assumption | omega | decide +kernel) (by first | assumption | omega | decide +kernel) (by first | assumption | omega | decide +kernel) (by first | assumption | omega | decide +kernel) (by first | assumption | omega | decide +kernel) (by first | assumption | omega | decide +kernel) (by first | assumption | omega | decide +kernel))) (fun r hp => ?_)
                                                                  obtain _ := hp
                                                                  obtain ⟨r_6, rfl⟩ : ∃ z, z = r := ⟨_, rfl⟩
                                                                  refine lv_istore (lv' := [(6, .int r_6), (5, .int (nI f)), (4, .int 2), (3, .int y3_15), (0, .ref m0), (1, .int m9), (2, .int 0)]) hx hb dX9_nodes_37 hl (by decide) rfl (fun ls hl => ?_)
                                                                  refine lv_iload_n hx hb dX9_nodes_39 rfl (lv_at hl 3 rfl) ?_
                                                                  refine lv_iload hx hb dX9_nodes_40 (lv_at hl 0 rfl) ?_
                                                                  refine lv_iload_n hx hb dX9_nodes_42 rfl (lv_at hl 5 rfl) ?_
                                                                  refine lv_icmp_lt (tgt := 72) hx hb dX9_nodes_43 (by decide) (fun c43 => ?_) (fun c43 => ?_)
                                                                  ·
                                                                    have d43 : r_6.toInt < m9.toInt := my_lt c43 rfl rfl
                                                                    refine lv_iconst (v := 0) hx hb dX9_nodes_72 (by decide +kernel) ?_
                                                                    refine my_gpI (my_pS (As := [.int 0]) (rest := [.int y3_15]) ⟨hx, hb, hml, hown, hts⟩ (va_cwS 1 hts gX9_nodes_X9_flag rfl rfl rfl (by decide +kernel) ⟨Nat.le_of_ble_eq_true rfl, Nat.le_of_ble_eq_true rfl⟩) hN hK hP [] rfl rfl hl.1 rfl (Nat.le_of_ble_eq_true rfl) dX9_nodes_73 ⟨Nat.le_of_ble_eq_true rfl, Nat.le_of_ble_eq_true rfl⟩  (k0_X9_flag l D cI cJ cK )) (fun r hp => ?_)
                                                                    obtain rfl := hp
                                                                    refine lv_iadd hx hb dX9_nodes_76 ?_
                                                                    refine lv_topi (fun z_7 ez_7 => ?_)
                                                                    try have tz_7 : z_7.toInt = y3_15.toInt + (0 : Int) := by rw [ez_7]; exact my_addI rfl (by decide +kernel) (by omega) (by omega)
                                                                    refine lv_istore_n (lv' := [(3, .int z_7), (6, .int r_6), (5, .int (nI f)), (4, .int 2), (0, .ref m0), (1, .int m9), (2, .int 0)]) hx hb dX9_nodes_77 rfl hl (by decide) rfl (fun ls hl => ?_)
                                                                    refine lv_iload hx hb dX9_nodes_78 (lv_at hl 2 rfl) ?_
                                                                    refine lv_iload hx hb dX9_nodes_80 (lv_at hl 3 rfl) ?_
                                                                    refine lv_iadd hx hb dX9_nodes_82 ?_
                                                                    refine my_eqi (y := nI (f + 2)) (my_addN f 2) ?_
                                                                    refine lv_istore (lv' := [(5, .int (nI (f + 2))), (3, .int z_7), (6, .int r_6), (4, .int 2), (0, .ref m0), (1, .int m9), (2, .int 0)]) hx hb dX9_nodes_83 hl (by decide) rfl (fun ls hl => ?_)
                                                                    refine lv_goto (tgt := 15) hx hb dX9_nodes_85 (by decide) ?_
                                                                    exact ih15  (f + 2) z_7 (by omega) (by first | assumption | omega | decide +kernel) ls (lv_sub hl [0, 3, 1, 4, 5, 6] rfl)
                                                                  ·
                                                                    have d43 : r_6.toInt ≥ m9.toInt := my_nlt c43 rfl rfl
                                                                    refine lv_iload_n hx hb dX9_nodes_46 rfl (lv_at hl 6 rfl) ?_
                                                                    refine lv_if_eq (tgt := 68) hx hb dX9_nodes_47 (by decide) (fun c47 => ?_) (fun c47 => ?_)
                                                                    ·
                                                                      refine lv_iconst (v := 1) hx hb dX9_nodes_68 (by decide +kernel) ?_
                                                                      refine lv_goto (tgt := 73) hx hb dX9_nodes_69 (by decide) ?_
                                                                      refine my_gpI (my_pS (As := [.int 1]) (rest := [.int y3_15]) ⟨hx, hb, hml, hown, hts⟩ (va_cwS 1 hts gX9_nodes_X9_flag rfl rfl rfl (by decide +kernel) ⟨Nat.le_of_ble_eq_true rfl, Nat.le_of_ble_eq_true rfl⟩) hN hK hP [] rfl rfl hl.1 rfl (Nat.le_of_ble_eq_true rfl) dX9_nodes_73 ⟨Nat.le_of_ble_eq_true rfl, Nat.le_of_ble_eq_true rfl⟩  (k1_X9_flag l D cI cJ cK )) (fun r hp => ?_)
                                                                      obtain rfl := hp
                                                                      refine lv_iadd hx hb dX9_nodes_76 ?_
                                                                      refine lv_topi (fun z_8 ez_8 => ?_)
                                                                      try have tz_8 : z_8.toInt = y3_15.toInt + (1 : Int) := by rw [ez_8]; exact my_addI rfl (by decide +kernel) (by omega) (by omega)
                                                                      refine lv_istore_n (lv' := [(3, .int z_8), (6, .int r_6), (5, .int (nI f)), (4, .int 2), (0, .ref m0), (1, .int m9), (2, .int 0)]) hx hb dX9_nodes_77 rfl hl (by decide) rfl (fun ls hl => ?_)
                                                                      refine lv_iload hx hb dX9_nodes_78 (lv_at hl 2 rfl) ?_
                                                                      refine lv_iload hx hb dX9_nodes_80 (lv_at hl 3 rfl) ?_
                                                                      refine lv_iadd hx hb dX9_nodes_82 ?_
                                                                      refine my_eqi (y := nI (f + 2)) (my_addN f 2) ?_
                                                                      refine lv_istore (lv' := [(5, .int (nI (f + 2))), (3, .int z_8), (6, .int r_6), (4, .int 2), (0, .ref m0), (1, .int m9), (2, .int 0)]) hx hb dX9_nodes_83 hl (by decide) rfl (fun ls hl => ?_)
                                                                      refine lv_goto (tgt := 15) hx hb dX9_nodes_85 (by decide) ?_
                                                                      exact ih15  (f + 2) z_8 (by omega) (by first | assumption | omega | decide +kernel) ls (lv_sub hl [0, 3, 1, 4, 5, 6] rfl)
                                                                    ·
                                                                      exact absurd c47 (by decide +kernel)
                                                            exact loop15 ((512 - 0) + 1) 0 y3_15 (Nat.lt_succ_self _) (by first | assumption | omega | decide +kernel) ls (lv_sub hl [0, 1, 2, 3, 4, 5] rfl)
                                                        ·
                                                          have d20 : ((f : Nat) : Int) < (256 : Int) := my_nge c20 (nI_toInt (by omega)) (by decide +kernel)
                                                          refine lv_aload_n hx hb dX9_nodes_23 rfl (lv_at hl 3 rfl) ?_
                                                          refine lv_iconst (v := 0) hx hb dX9_nodes_24 (by decide +kernel) ?_
                                                          refine lv_iload hx hb dX9_nodes_25 (lv_at hl 0 rfl) ?_
                                                          refine lv_iload hx hb dX9_nodes_27 (lv_at hl 0 rfl) ?_
                                                          refine lv_iload hx hb dX9_nodes_29 (lv_at hl 1 rfl) ?_
                                                          refine lv_iadd hx hb dX9_nodes_31 ?_
                                                          refine my_eqi (y := nI (f + 4)) (my_addN f 4) ?_
                                                          refine lv_iconst (v := 1) hx hb dX9_nodes_32 (by decide +kernel) ?_
                                                          refine lv_isub hx hb dX9_nodes_33 ?_
                                                          refine lv_topi (fun z_9 ez_9 => ?_)
                                                          try have tz_9 : z_9.toInt = ((f + 4 : Nat) : Int) - (1 : Int) := by rw [ez_9]; exact my_subI (nI_toInt (by omega)) (by decide +kernel) (by omega) (by omega)
                                                          refine my_gpI (my_pV (As := [.int 0, .int (nI f), .int z_9]) (rest := []) (ci := 9) ⟨hx, hb, hml, hown, hts⟩ (cwV 3 hts gX9_nodes_X9_within rfl rfl rfl (by decide +kernel) ⟨Nat.le_of_ble_eq_true rfl, Nat.le_of_ble_eq_true rfl⟩) hN hK hP [0, 1] rfl 0 rfl rfl rfl rfl hl.1 rfl (Nat.le_of_ble_eq_true rfl) dX9_nodes_34 ⟨Nat.le_of_ble_eq_true rfl, Nat.le_of_ble_eq_true rfl⟩  (k0_X9_within l D cI cJ cK m0 a_row a_tape a_number a_read a_readBits a_stands a_parted a_bitsWere a_stood a_chosen a_bestChosen a_often a_sorted a_risen a_risenWays m_thrown m_told m_taped m_at m_to m_many m_readMany m_fewest m_size mf (nI f) ((f : Nat) : Int) (nI_toInt (by omega)) z_9 z_9.toInt rfl (by first | assumption | omega | decide +kernel) (by first | assumption | omega | decide +kernel) (by first | assumption | omega | decide +kernel) (by first | assumption | omega | decide +kernel) (by first | assumption | omega | decide +kernel) (by first | assumption | omega | decide +kernel) (by first | assumption | omega | decide +kernel) (by first | assumption | omega | decide +kernel))) (fun r hp => ?_)
                                                          obtain _ := hp
                                                          obtain ⟨r_10, rfl⟩ : ∃ z, z = r := ⟨_, rfl⟩
                                                          refine lv_istore (lv' := [(6, .int r_10), (5, .int (nI f)), (4, .int 4), (3, .int y3_15), (0, .ref m0), (1, .int m9), (2, .int 0)]) hx hb dX9_nodes_37 hl (by decide) rfl (fun ls hl => ?_)
                                                          refine lv_iload_n hx hb dX9_nodes_39 rfl (lv_at hl 3 rfl) ?_
                                                          refine lv_iload hx hb dX9_nodes_40 (lv_at hl 0 rfl) ?_
                                                          refine lv_iload_n hx hb dX9_nodes_42 rfl (lv_at hl 5 rfl) ?_
                                                          refine lv_icmp_lt (tgt := 72) hx hb dX9_nodes_43 (by decide) (fun c43 => ?_) (fun c43 => ?_)
                                                          ·
                                                            have d43 : r_10.toInt < m9.toInt := my_lt c43 rfl rfl
                                                            refine lv_iconst (v := 0) hx hb dX9_nodes_72 (by decide +kernel) ?_
                                                            refine my_gpI (my_pS (As := [.int 0]) (rest := [.int y3_15]) ⟨hx, hb, hml, hown, hts⟩ (va_cwS 1 hts gX9_nodes_X9_flag rfl rfl rfl (by decide +kernel) ⟨Nat.le_of_ble_eq_true rfl, Nat.le_of_ble_eq_true rfl⟩) hN hK hP [] rfl rfl hl.1 rfl (Nat.le_of_ble_eq_true rfl) dX9_nodes_73 ⟨Nat.le_of_ble_eq_true rfl, Nat.le_of_ble_eq_true rfl⟩  (k0_X9_flag l D cI cJ cK )) (fun r hp => ?_)
                                                            obtain rfl := hp
                                                            refine lv_iadd hx hb dX9_nodes_76 ?_
                                                            refine lv_topi (fun z_11 ez_11 => ?_)
                                                            try have tz_11 : z_11.toInt = y3_15.toInt + (0 : Int) := by rw [ez_11]; exact my_addI rfl (by decide +kernel) (by omega) (by omega)
                                                            refine lv_istore_n (lv' := [(3, .int z_11), (6, .int r_10), (5, .int (nI f)), (4, .int 4), (0, .ref m0), (1, .int m9), (2, .int 0)]) hx hb dX9_nodes_77 rfl hl (by decide) rfl (fun ls hl => ?_)
                                                            refine lv_iload hx hb dX9_nodes_78 (lv_at hl 2 rfl) ?_
                                                            refine lv_iload hx hb dX9_nodes_80 (lv_at hl 3 rfl) ?_
                                                            refine lv_iadd hx hb dX9_nodes_82 ?_
                                                            refine my_eqi (y := nI (f + 4)) (my_addN f 4) ?_
                                                            refine lv_istore (lv' := [(5, .int (nI (f + 4))), (3, .int z_11), (6, .int r_10), (4, .int 4), (0, .ref m0), (1, .int m9), (2, .int 0)]) hx hb dX9_nodes_83 hl (by decide) rfl (fun ls hl => ?_)
                                                            refine lv_goto (tgt := 15) hx hb dX9_nodes_85 (by decide) ?_
                                                            exact ih15  (f + 4) z_11 (by omega) (by first | assumption | omega | decide +kernel) ls (lv_sub hl [0, 3, 1, 4, 5, 6] rfl)
                                                          ·
                                                            have d43 : r_10.toInt ≥ m9.toInt := my_nlt c43 rfl rfl
                                                            refine lv_iload_n hx hb dX9_nodes_46 rfl (lv_at hl 6 rfl) ?_
                                                            refine lv_if_eq (tgt := 68) hx hb dX9_nodes_47 (by decide) (fun c47 => ?_) (fun c47 => ?_)
                                                            ·
                                                              refine lv_iconst (v := 1) hx hb dX9_nodes_68 (by decide +kernel) ?_
                                                              refine lv_goto (tgt := 73) hx hb dX9_nodes_69 (by decide) ?_
                                                              refine my_gpI (my_pS (As := [.int 1]) (rest := [.int y3_15]) ⟨hx, hb, hml, hown, hts⟩ (va_cwS 1 hts gX9_nodes_X9_flag rfl rfl rfl (by decide +kernel) ⟨Nat.le_of_ble_eq_true rfl, Nat.le_of_ble_eq_true rfl⟩) hN hK hP [] rfl rfl hl.1 rfl (Nat.le_of_ble_eq_true rfl) dX9_nodes_73 ⟨Nat.le_of_ble_eq_true rfl, Nat.le_of_ble_eq_true rfl⟩  (k1_X9_flag l D cI cJ cK )) (fun r hp => ?_)
                                                              obtain rfl := hp
                                                              refine lv_iadd hx hb dX9_nodes_76 ?_
                                                              refine lv_topi (fun z_12 ez_12 => ?_)
                                                              try have tz_12 : z_12.toInt = y3_15.toInt + (1 : Int) := by rw [ez_12]; exact my_addI rfl (by decide +kernel) (by omega) (by omega)
                                                              refine lv_istore_n (lv' := [(3, .int z_12), (6, .int r_10), (5, .int (nI f)), (4, .int 4), (0, .ref m0), (1, .int m9), (2, .int 0)]) hx hb dX9_nodes_77 rfl hl (by decide) rfl (fun ls hl => ?_)
                                                              refine lv_iload hx hb dX9_nodes_78 (lv_at hl 2 rfl) ?_
                                                              refine lv_iload hx hb dX9_nodes_80 (lv_at hl 3 rfl) ?_
                                                              refine lv_iadd hx hb dX9_nodes_82 ?_
                                                              refine my_eqi (y := nI (f + 4)) (my_addN f 4) ?_
                                                              refine lv_istore (lv' := [(5, .int (nI (f + 4))), (3, .int z_12), (6, .int r_10), (4, .int 4), (0, .ref m0), (1, .int m9), (2, .int 0)]) hx hb dX9_nodes_83 hl (by decide) rfl (fun ls hl => ?_)
                                                              refine lv_goto (tgt := 15) hx hb dX9_nodes_85 (by decide) ?_
                                                              exact ih15  (f + 4) z_12 (by omega) (by first | assumption | omega | decide +kernel) ls (lv_sub hl [0, 3, 1, 4, 5, 6] rfl)
                                                            ·
                                                              exact absurd c47 (by decide +kernel)
                                                    exact loop15 ((512 - 0) + 1) 0 y3_15 (Nat.lt_succ_self _) (by first | assumption | omega | decide +kernel) ls (lv_sub hl [0, 1, 2, 3, 4, 5] rfl)
                                                ·
                                                  have d20 : ((f : Nat) : Int) < (256 : Int) := my_nge c20 (nI_toInt (by omega)) (by decide +kernel)
                                                  refine lv_aload_n hx hb dX9_nodes_23 rfl (lv_at hl 3 rfl) ?_
                                                  refine lv_iconst (v := 0) hx hb dX9_nodes_24 (by decide +kernel) ?_
                                                  refine lv_iload hx hb dX9_nodes_25 (lv_at hl 0 rfl) ?_
                                                  refine lv_iload hx hb dX9_nodes_27 (lv_at hl 0 rfl) ?_
                                                  refine lv_iload hx hb dX9_nodes_29 (lv_at hl 1 rfl) ?_
                                                  refine lv_iadd hx hb dX9_nodes_31 ?_
                                                  refine my_eqi (y := nI (f + 8)) (my_addN f 8) ?_
                                                  refine lv_iconst (v := 1) hx hb dX9_nodes_32 (by decide +kernel) ?_
                                                  refine lv_isub hx hb dX9_nodes_33 ?_
                                                  refine lv_topi (fun z_13 ez_13 => ?_)
                                                  try have tz_13 : z_13.toInt = ((f + 8 : Nat) : Int) - (1 : Int) := by rw [ez_13]; exact my_subI (nI_toInt (by omega)) (by decide +kernel) (by omega) (by omega)
                                                  refine my_gpI (my_pV (As := [.int 0, .int (nI f), .int z_13]) (rest := []) (ci := 9) ⟨hx, hb, hml, hown, hts⟩ (cwV 3 hts gX9_nodes_X9_within rfl rfl rfl (by decide +kernel) ⟨Nat.le_of_ble_eq_true rfl, Nat.le_of_ble_eq_true rfl⟩) hN hK hP [0, 1] rfl 0 rfl rfl rfl rfl hl.1 rfl (Nat.le_of_ble_eq_true rfl) dX9_nodes_34 ⟨Nat.le_of_ble_eq_true rfl, Nat.le_of_ble_eq_true rfl⟩  (k0_X9_within l D cI cJ cK m0 a_row a_tape a_number a_read a_readBits a_stands a_parted a_bitsWere a_stood a_chosen a_bestChosen a_often a_sorted a_risen a_risenWays m_thrown m_told m_taped m_at m_to m_many m_readMany m_fewest m_size mf (nI f) ((f : Nat) : Int) (nI_toInt (by omega)) z_13 z_13.toInt rfl (by first | assumption | omega | decide +kernel) (by first | assumption | omega | decide +kernel) (by first | assumption | omega | decide +kernel) (by first | assumption | omega | decide +kernel) (by first | assumption | omega | decide +kernel) (by first | assumption | omega | decide +kernel) (by first | assumption | omega | decide +kernel) (by first | assumption | omega | decide +kernel))) (fun r hp => ?_)
                                                  obtain _ := hp
                                                  obtain ⟨r_14, rfl⟩ : ∃ z, z = r := ⟨_, rfl⟩
                                                  refine lv_istore (lv' := [(6, .int r_14), (5, .int (nI f)), (4, .int 8), (3, .int y3_15), (0, .ref m0), (1, .int m9), (2, .int 0)]) hx hb dX9_nodes_37 hl (by decide) rfl (fun ls hl => ?_)
                                                  refine lv_iload_n hx hb dX9_nodes_39 rfl (lv_at hl 3 rfl) ?_
                                                  refine lv_iload hx hb dX9_nodes_40 (lv_at hl 0 rfl) ?_
                                                  refine lv_iload_n hx hb dX9_nodes_42 rfl (lv_at hl 5 rfl) ?_
                                                  refine lv_icmp_lt (tgt := 72) hx hb dX9_nodes_43 (by decide) (fun c43 => ?_) (fun c43 => ?_)
                                                  ·
                                                    have d43 : r_14.toInt < m9.toInt := my_lt c43 rfl rfl
                                                    refine lv_iconst (v := 0) hx hb dX9_nodes_72 (by decide +kernel) ?_
                                                    refine my_gpI (my_pS (As := [.int 0]) (rest := [.int y3_15]) ⟨hx, hb, hml, hown, hts⟩ (va_cwS 1 hts gX9_nodes_X9_flag rfl rfl rfl (by decide +kernel) ⟨Nat.le_of_ble_eq_true rfl, Nat.le_of_ble_eq_true rfl⟩) hN hK hP [] rfl rfl hl.1 rfl (Nat.le_of_ble_eq_true rfl) dX9_nodes_73 ⟨Nat.le_of_ble_eq_true rfl, Nat.le_of_ble_eq_true rfl⟩  (k0_X9_flag l D cI cJ cK )) (fun r hp => ?_)
                                                    obtain rfl := hp
                                                    refine lv_iadd hx hb dX9_nodes_76 ?_
                                                    refine lv_topi (fun z_15 ez_15 => ?_)
                                                    try have tz_15 : z_15.toInt = y3_15.toInt + (0 : Int) := by rw [ez_15]; exact my_addI rfl (by decide +kernel) (by omega) (by omega)
                                                    refine lv_istore_n (lv' := [(3, .int z_15), (6, .int r_14), (5, .int (nI f)), (4, .int 8), (0, .ref m0), (1, .int m9), (2, .int 0)]) hx hb dX9_nodes_77 rfl hl (by decide) rfl (fun ls hl => ?_)
                                                    refine lv_iload hx hb dX9_nodes_78 (lv_at hl 2 rfl) ?_
                                                    refine lv_iload hx hb dX9_nodes_80 (lv_at hl 3 rfl) ?_
                                                    refine lv_iadd hx hb dX9_nodes_82 ?_
                                                    refine my_eqi (y := nI (f + 8)) (my_addN f 8) ?_
                                                    refine lv_istore (lv' := [(5, .int (nI (f + 8))), (3, .int z_15), (6, .int r_14), (4, .int 8), (0, .ref m0), (1, .int m9), (2, .int 0)]) hx hb dX9_nodes_83 hl (by decide) rfl (fun ls hl => ?_)
                                                    refine lv_goto (tgt := 15) hx hb dX9_nodes_85 (by decide) ?_
                                                    exact ih15  (f + 8) z_15 (by omega) (by first | assumption | omega | decide +kernel) ls (lv_sub hl [0, 3, 1, 4, 5, 6] rfl)
                                                  ·
                                                    have d43 : r_14.toInt ≥ m9.toInt := my_nlt c43 rfl rfl
                                                    refine lv_iload_n hx hb dX9_nodes_46 rfl (lv_at hl 6 rfl) ?_
                                                    refine lv_if_eq (tgt := 68) hx hb dX9_nodes_47 (by decide) (fun c47 => ?_) (fun c47 => ?_)
                                                    ·
                                                      refine lv_iconst (v := 1) hx hb dX9_nodes_68 (by decide +kernel) ?_
                                                      refine lv_goto (tgt := 73) hx hb dX9_nodes_69 (by decide) ?_
                                                      refine my_gpI (my_pS (As := [.int 1]) (rest := [.int y3_15]) ⟨hx, hb, hml, hown, hts⟩ (va_cwS 1 hts gX9_nodes_X9_flag rfl rfl rfl (by decide +kernel) ⟨Nat.le_of_ble_eq_true rfl, Nat.le_of_ble_eq_true rfl⟩) hN hK hP [] rfl rfl hl.1 rfl (Nat.le_of_ble_eq_true rfl) dX9_nodes_73 ⟨Nat.le_of_ble_eq_true rfl, Nat.le_of_ble_eq_true rfl⟩  (k1_X9_flag l D cI cJ cK )) (fun r hp => ?_)
                                                      obtain rfl := hp
                                                      refine lv_iadd hx hb dX9_nodes_76 ?_
                                                      refine lv_topi (fun z_16 ez_16 => ?_)
                                                      try have tz_16 : z_16.toInt = y3_15.toInt + (1 : Int) := by rw [ez_16]; exact my_addI rfl (by decide +kernel) (by omega) (by omega)
                                                      refine lv_istore_n (lv' := [(3, .int z_16), (6, .int r_14), (5, .int (nI f)), (4, .int 8), (0, .ref m0), (1, .int m9), (2, .int 0)]) hx hb dX9_nodes_77 rfl hl (by decide) rfl (fun ls hl => ?_)
                                                      refine lv_iload hx hb dX9_nodes_78 (lv_at hl 2 rfl) ?_
                                                      refine lv_iload hx hb dX9_nodes_80 (lv_at hl 3 rfl) ?_
                                                      refine lv_iadd hx hb dX9_nodes_82 ?_
                                                      refine my_eqi (y := nI (f + 8)) (my_addN f 8) ?_
                                                      refine lv_istore (lv' := [(5, .int (nI (f + 8))), (3, .int z_16), (6, .int r_14), (4, .int 8), (0, .ref m0), (1, .int m9), (2, .int 0)]) hx hb dX9_nodes_83 hl (by decide) rfl (fun ls hl => ?_)
                                                      refine lv_goto (tgt := 15) hx hb dX9_nodes_85 (by decide) ?_
                                                      exact ih15  (f + 8) z_16 (by omega) (by first | assumption | omega | decide +kernel) ls (lv_sub hl [0, 3, 1, 4, 5, 6] rfl)
                                                    ·
                                                      exact absurd c47 (by decide +kernel)
                                            exact loop15 ((512 - 0) + 1) 0 y3_15 (Nat.lt_succ_self _) (by first | assumption | omega | decide +kernel) ls (lv_sub hl [0, 1, 2, 3, 4, 5] rfl)
                                        ·
                                          have d20 : ((f : Nat) : Int) < (256 : Int) := my_nge c20 (nI_toInt (by omega)) (by decide +kernel)
                                          refine lv_aload_n hx hb dX9_nodes_23 rfl (lv_at hl 3 rfl) ?_
                                          refine lv_iconst (v := 0) hx hb dX9_nodes_24 (by decide +kernel) ?_
                                          refine lv_iload hx hb dX9_nodes_25 (lv_at hl 0 rfl) ?_
                                          refine lv_iload hx hb dX9_nodes_27 (lv_at hl 0 rfl) ?_
                                          refine lv_iload hx hb dX9_nodes_29 (lv_at hl 1 rfl) ?_
                                          refine lv_iadd hx hb dX9_nodes_31 ?_
                                          refine my_eqi (y := nI (f + 16)) (my_addN f 16) ?_
                                          refine lv_iconst (v := 1) hx hb dX9_nodes_32 (by decide +kernel) ?_
                                          refine lv_isub hx hb dX9_nodes_33 ?_
                                          refine lv_topi (fun z_17 ez_17 => ?_)
                                          try have tz_17 : z_17.toInt = ((f + 16 : Nat) : Int) - (1 : Int) := by rw [ez_17]; exact my_subI (nI_toInt (by omega)) (by decide +kernel) (by omega) (by omega)
                                          refine my_gpI (my_pV (As := [.int 0, .int (nI f), .int z_17]) (rest := []) (ci := 9) ⟨hx, hb, hml, hown, hts⟩ (cwV 3 hts gX9_nodes_X9_within rfl rfl rfl (by decide +kernel) ⟨Nat.le_of_ble_eq_true rfl, Nat.le_of_ble_eq_true rfl⟩) hN hK hP [0, 1] rfl 0 rfl rfl rfl rfl hl.1 rfl (Nat.le_of_ble_eq_true rfl) dX9_nodes_34 ⟨Nat.le_of_ble_eq_true rfl, Nat.le_of_ble_eq_true rfl⟩  (k0_X9_within l D cI cJ cK m0 a_row a_tape a_number a_read a_readBits a_stands a_parted a_bitsWere a_stood a_chosen a_bestChosen a_often a_sorted a_risen a_risenWays m_thrown m_told m_taped m_at m_to m_many m_readMany m_fewest m_size mf (nI f) ((f : Nat) : Int) (nI_toInt (by omega)) z_17 z_17.toInt rfl (by first | assumption | omega | decide +kernel) (by first | assumption | omega | decide +kernel) (by first | assumption | omega | decide +kernel) (by first | assumption | omega | decide +kernel) (by first | assumption | omega | decide +kernel) (by first | assumption | omega | decide +kernel) (by first | assumption | omega | decide +kernel) (by first | assumption | omega | decide +kernel))) (fun r hp => ?_)
                                          obtain _ := hp
                                          obtain ⟨r_18, rfl⟩ : ∃ z, z = r := ⟨_, rfl⟩
                                          refine lv_istore (lv' := [(6, .int r_18), (5, .int (nI f)), (4, .int 16), (3, .int y3_15), (0, .ref m0), (1, .int m9), (2, .int 0)]) hx hb dX9_nodes_37 hl (by decide) rfl (fun ls hl => ?_)
                                          refine lv_iload_n hx hb dX9_nodes_39 rfl (lv_at hl 3 rfl) ?_
                                          refine lv_iload hx hb dX9_nodes_40 (lv_at hl 0 rfl) ?_
                                          refine lv_iload_n hx hb dX9_nodes_42 rfl (lv_at hl 5 rfl) ?_
                                          refine lv_icmp_lt (tgt := 72) hx hb dX9_nodes_43 (by decide) (fun c43 => ?_) (fun c43 => ?_)
                                          ·
                                            have d43 : r_18.toInt < m9.toInt := my_lt c43 rfl rfl
                                            refine lv_iconst (v := 0) hx hb dX9_nodes_72 (by decide +kernel) ?_
                                            refine my_gpI (my_pS (As := [.int 0]) (rest := [.int y3_15]) ⟨hx, hb, hml, hown, hts⟩ (va_cwS 1 hts gX9_nodes_X9_flag rfl rfl rfl (by decide +kernel) ⟨Nat.le_of_ble_eq_true rfl, Nat.le_of_ble_eq_true rfl⟩) hN hK hP [] rfl rfl hl.1 rfl (Nat.le_of_ble_eq_true rfl) dX9_nodes_73 ⟨Nat.le_of_ble_eq_true rfl, Nat.le_of_ble_eq_true rfl⟩  (k0_X9_flag l D cI cJ cK )) (fun r hp => ?_)
                                            obtain rfl := hp
                                            refine lv_iadd hx hb dX9_nodes_76 ?_
                                            refine lv_topi (fun z_19 ez_19 => ?_)
                                            try have tz_19 : z_19.toInt = y3_15.toInt + (0 : Int) := by rw [ez_19]; exact my_addI rfl (by decide +kernel) (by omega) (by omega)
                                            refine lv_istore_n (lv' := [(3, .int z_19), (6, .int r_18), (5, .int (nI f)), (4, .int 16), (0, .ref m0), (1, .int m9), (2, .int 0)]) hx hb dX9_nodes_77 rfl hl (by decide) rfl (fun ls hl => ?_)
                                            refine lv_iload hx hb dX9_nodes_78 (lv_at hl 2 rfl) ?_
                                            refine lv_iload hx hb dX9_nodes_80 (lv_at hl 3 rfl) ?_
                                            refine lv_iadd hx hb dX9_nodes_82 ?_
                                            refine my_eqi (y := nI (f + 16)) (my_addN f 16) ?_
                                            refine lv_istore (lv' := [(5, .int (nI (f + 16))), (3, .int z_19), (6, .int r_18), (4, .int 16), (0, .ref m0), (1, .int m9), (2, .int 0)]) hx hb dX9_nodes_83 hl (by decide) rfl (fun ls hl => ?_)
                                            refine lv_goto (tgt := 15) hx hb dX9_nodes_85 (by decide) ?_
                                            exact ih15  (f + 16) z_19 (by omega) (by first | assumption | omega | decide +kernel) ls (lv_sub hl [0, 3, 1, 4, 5, 6] rfl)
                                          ·
                                            have d43 : r_18.toInt ≥ m9.toInt := my_nlt c43 rfl rfl
                                            refine lv_iload_n hx hb dX9_nodes_46 rfl (lv_at hl 6 rfl) ?_
                                            refine lv_if_eq (tgt := 68) hx hb dX9_nodes_47 (by decide) (fun c47 => ?_) (fun c47 => ?_)
                                            ·
                                              refine lv_iconst (v := 1) hx hb dX9_nodes_68 (by decide +kernel) ?_
                                              refine lv_goto (tgt := 73) hx hb dX9_nodes_69 (by decide) ?_
                                              refine my_gpI (my_pS (As := [.int 1]) (rest := [.int y3_15]) ⟨hx, hb, hml, hown, hts⟩ (va_cwS 1 hts gX9_nodes_X9_flag rfl rfl rfl (by decide +kernel) ⟨Nat.le_of_ble_eq_true rfl, Nat.le_of_ble_eq_true rfl⟩) hN hK hP [] rfl rfl hl.1 rfl (Nat.le_of_ble_eq_true rfl) dX9_nodes_73 ⟨Nat.le_of_ble_eq_true rfl, Nat.le_of_ble_eq_true rfl⟩  (k1_X9_flag l D cI cJ cK )) (fun r hp => ?_)
                                              obtain rfl := hp
                                              refine lv_iadd hx hb dX9_nodes_76 ?_
                                              refine lv_topi (fun z_20 ez_20 => ?_)
                                              try have tz_20 : z_20.toInt = y3_15.toInt + (1 : Int) := by rw [ez_20]; exact my_addI rfl (by decide +kernel) (by omega) (by omega)
                                              refine lv_istore_n (lv' := [(3, .int z_20), (6, .int r_18), (5, .int (nI f)), (4, .int 16), (0, .ref m0), (1, .int m9), (2, .int 0)]) hx hb dX9_nodes_77 rfl hl (by decide) rfl (fun ls hl => ?_)
                                              refine lv_iload hx hb dX9_nodes_78 (lv_at hl 2 rfl) ?_
                                              refine lv_iload hx hb dX9_nodes_80 (lv_at hl 3 rfl) ?_
                                              refine lv_iadd hx hb dX9_nodes_82 ?_
                                              refine my_eqi (y := nI (f + 16)) (my_addN f 16) ?_
                                              refine lv_istore (lv' := [(5, .int (nI (f + 16))), (3, .int z_20), (6, .int r_18), (4, .int 16), (0, .ref m0), (1, .int m9), (2, .int 0)]) hx hb dX9_nodes_83 hl (by decide) rfl (fun ls hl => ?_)
                                              refine lv_goto (tgt := 15) hx hb dX9_nodes_85 (by decide) ?_
                                              exact ih15  (f + 16) z_20 (by omega) (by first | assumption | omega | decide +kernel) ls (lv_sub hl [0, 3, 1, 4, 5, 6] rfl)
                                            ·
                                              exact absurd c47 (by decide +kernel)
                                    exact loop15 ((512 - 0) + 1) 0 y3_15 (Nat.lt_succ_self _) (by first | assumption | omega | decide +kernel) ls (lv_sub hl [0, 1, 2, 3, 4, 5] rfl)
                                ·
                                  have d20 : ((f : Nat) : Int) < (256 : Int) := my_nge c20 (nI_toInt (by omega)) (by decide +kernel)
                                  refine lv_aload_n hx hb dX9_nodes_23 rfl (lv_at hl 3 rfl) ?_
                                  refine lv_iconst (v := 0) hx hb dX9_nodes_24 (by decide +kernel) ?_
                                  refine lv_iload hx hb dX9_nodes_25 (lv_at hl 0 rfl) ?_
                                  refine lv_iload hx hb dX9_nodes_27 (lv_at hl 0 rfl) ?_
                                  refine lv_iload hx hb dX9_nodes_29 (lv_at hl 1 rfl) ?_
                                  refine lv_iadd hx hb dX9_nodes_31 ?_
                                  refine my_eqi (y := nI (f + 32)) (my_addN f 32) ?_
                                  refine lv_iconst (v := 1) hx hb dX9_nodes_32 (by decide +kernel) ?_
                                  refine lv_isub hx hb dX9_nodes_33 ?_
                                  refine lv_topi (fun z_21 ez_21 => ?_)
                                  try have tz_21 : z_21.toInt = ((f + 32 : Nat) : Int) - (1 : Int) := by rw [ez_21]; exact my_subI (nI_toInt (by omega)) (by decide +kernel) (by omega) (by omega)
                                  refine my_gpI (my_pV (As := [.int 0, .int (nI f), .int z_21]) (rest := []) (ci := 9) ⟨hx, hb, hml, hown, hts⟩ (cwV 3 hts gX9_nodes_X9_within rfl rfl rfl (by decide +kernel) ⟨Nat.le_of_ble_eq_true rfl, Nat.le_of_ble_eq_true rfl⟩) hN hK hP [0, 1] rfl 0 rfl rfl rfl rfl hl.1 rfl (Nat.le_of_ble_eq_true rfl) dX9_nodes_34 ⟨Nat.le_of_ble_eq_true rfl, Nat.le_of_ble_eq_true rfl⟩  (k0_X9_within l D cI cJ cK m0 a_row a_tape a_number a_read a_readBits a_stands a_parted a_bitsWere a_stood a_chosen a_bestChosen a_often a_sorted a_risen a_risenWays m_thrown m_told m_taped m_at m_to m_many m_readMany m_fewest m_size mf (nI f) ((f : Nat) : Int) (nI_toInt (by omega)) z_21 z_21.toInt rfl (by first | assumption | omega | decide +kernel) (by first | assumption | omega | decide +kernel) (by first | assumption | omega | decide +kernel) (by first | assumption | omega | decide +kernel) (by first | assumption | omega | decide +kernel) (by first | assumption | omega | decide +kernel) (by first | assumption | omega | decide +kernel) (by first | assumption | omega | decide +kernel))) (fun r hp => ?_)
                                  obtain _ := hp
                                  obtain ⟨r_22, rfl⟩ : ∃ z, z = r := ⟨_, rfl⟩
                                  refine lv_istore (lv' := [(6, .int r_22), (5, .int (nI f)), (4, .int 32), (3, .int y3_15), (0, .ref m0), (1, .int m9), (2, .int 0)]) hx hb dX9_nodes_37 hl (by decide) rfl (fun ls hl => ?_)
                                  refine lv_iload_n hx hb dX9_nodes_39 rfl (lv_at hl 3 rfl) ?_
                                  refine lv_iload hx hb dX9_nodes_40 (lv_at hl 0 rfl) ?_
                                  refine lv_iload_n hx hb dX9_nodes_42 rfl (lv_at hl 5 rfl) ?_
                                  refine lv_icmp_lt (tgt := 72) hx hb dX9_nodes_43 (by decide) (fun c43 => ?_) (fun c43 => ?_)
                                  ·
                                    have d43 : r_22.toInt < m9.toInt := my_lt c43 rfl rfl
                                    refine lv_iconst (v := 0) hx hb dX9_nodes_72 (by decide +kernel) ?_
                                    refine my_gpI (my_pS (As := [.int 0]) (rest := [.int y3_15]) ⟨hx, hb, hml, hown, hts⟩ (va_cwS 1 hts gX9_nodes_X9_flag rfl rfl rfl (by decide +kernel) ⟨Nat.le_of_ble_eq_true rfl, Nat.le_of_ble_eq_true rfl⟩) hN hK hP [] rfl rfl hl.1 rfl (Nat.le_of_ble_eq_true rfl) dX9_nodes_73 ⟨Nat.le_of_ble_eq_true rfl, Nat.le_of_ble_eq_true rfl⟩  (k0_X9_flag l D cI cJ cK )) (fun r hp => ?_)
                                    obtain rfl := hp
                                    refine lv_iadd hx hb dX9_nodes_76 ?_
                                    refine lv_topi (fun z_23 ez_23 => ?_)
                                    try have tz_23 : z_23.toInt = y3_15.toInt + (0 : Int) := by rw [ez_23]; exact my_addI rfl (by decide +kernel) (by omega) (by omega)
                                    refine lv_istore_n (lv' := [(3, .int z_23), (6, .int r_22), (5, .int (nI f)), (4, .int 32), (0, .ref m0), (1, .int m9), (2, .int 0)]) hx hb dX9_nodes_77 rfl hl (by decide) rfl (fun ls hl => ?_)
                                    refine lv_iload hx hb dX9_nodes_78 (lv_at hl 2 rfl) ?_
                                    refine lv_iload hx hb dX9_nodes_80 (lv_at hl 3 rfl) ?_
                                    refine lv_iadd hx hb dX9_nodes_82 ?_
                                    refine my_eqi (y := nI (f + 32)) (my_addN f 32) ?_
                                    refine lv_istore (lv' := [(5, .int (nI (f + 32))), (3, .int z_23), (6, .int r_22), (4, .int 32), (0, .ref m0), (1, .int m9), (2, .int 0)]) hx hb dX9_nodes_83 hl (by decide) rfl (fun ls hl => ?_)
                                    refine lv_goto (tgt := 15) hx hb dX9_nodes_85 (by decide) ?_
                                    exact ih15  (f + 32) z_23 (by omega) (by first | assumption | omega | decide +kernel) ls (lv_sub hl [0, 3, 1, 4, 5, 6] rfl)
                                  ·
                                    have d43 : r_22.toInt ≥ m9.toInt := my_nlt c43 rfl rfl
                                    refine lv_iload_n hx hb dX9_nodes_46 rfl (lv_at hl 6 rfl) ?_
                                    refine lv_if_eq (tgt := 68) hx hb dX9_nodes_47 (by decide) (fun c47 => ?_) (fun c47 => ?_)
                                    ·
                                      refine lv_iconst (v := 1) hx hb dX9_nodes_68 (by decide +kernel) ?_
                                      refine lv_goto (tgt := 73) hx hb dX9_nodes_69 (by decide) ?_
                                      refine my_gpI (my_pS (As := [.int 1]) (rest := [.int y3_15]) ⟨hx, hb, hml, hown, hts⟩ (va_cwS 1 hts gX9_nodes_X9_flag rfl rfl rfl (by decide +kernel) ⟨Nat.le_of_ble_eq_true rfl, Nat.le_of_ble_eq_true rfl⟩) hN hK hP [] rfl rfl hl.1 rfl (Nat.le_of_ble_eq_true rfl) dX9_nodes_73 ⟨Nat.le_of_ble_eq_true rfl, Nat.le_of_ble_eq_true rfl⟩  (k1_X9_flag l D cI cJ cK )) (fun r hp => ?_)
                                      obtain rfl := hp
                                      refine lv_iadd hx hb dX9_nodes_76 ?_
                                      refine lv_topi (fun z_24 ez_24 => ?_)
                                      try have tz_24 : z_24.toInt = y3_15.toInt + (1 : Int) := by rw [ez_24]; exact my_addI rfl (by decide +kernel) (by omega) (by omega)
                                      refine lv_istore_n (lv' := [(3, .int z_24), (6, .int r_22), (5, .int (nI f)), (4, .int 32), (0, .ref m0), (1, .int m9), (2, .int 0)]) hx hb dX9_nodes_77 rfl hl (by decide) rfl (fun ls hl => ?_)
                                      refine lv_iload hx hb dX9_nodes_78 (lv_at hl 2 rfl) ?_
                                      refine lv_iload hx hb dX9_nodes_80 (lv_at hl 3 rfl) ?_
                                      refine lv_iadd hx hb dX9_nodes_82 ?_
                                      refine my_eqi (y := nI (f + 32)) (my_addN f 32) ?_
                                      refine lv_istore (lv' := [(5, .int (nI (f + 32))), (3, .int z_24), (6, .int r_22), (4, .int 32), (0, .ref m0), (1, .int m9), (2, .int 0)]) hx hb dX9_nodes_83 hl (by decide) rfl (fun ls hl => ?_)
                                      refine lv_goto (tgt := 15) hx hb dX9_nodes_85 (by decide) ?_
                                      exact ih15  (f + 32) z_24 (by omega) (by first | assumption | omega | decide +kernel) ls (lv_sub hl [0, 3, 1, 4, 5, 6] rfl)
                                    ·
                                      exact absurd c47 (by decide +kernel)
                            exact loop15 ((512 - 0) + 1) 0 y3_15 (Nat.lt_succ_self _) (by first | assumption | omega | decide +kernel) ls (lv_sub hl [0, 1, 2, 3, 4, 5] rfl)
                        ·
                          have d20 : ((f : Nat) : Int) < (256 : Int) := my_nge c20 (nI_toInt (by omega)) (by decide +kernel)
                          refine lv_aload_n hx hb dX9_nodes_23 rfl (lv_at hl 3 rfl) ?_
                          refine lv_iconst (v := 0) hx hb dX9_nodes_24 (by decide +kernel) ?_
                          refine lv_iload hx hb dX9_nodes_25 (lv_at hl 0 rfl) ?_
                          refine lv_iload hx hb dX9_nodes_27 (lv_at hl 0 rfl) ?_
                          refine lv_iload hx hb dX9_nodes_29 (lv_at hl 1 rfl) ?_
                          refine lv_iadd hx hb dX9_nodes_31 ?_
                          refine my_eqi (y := nI (f + 64)) (my_addN f 64) ?_
                          refine lv_iconst (v := 1) hx hb dX9_nodes_32 (by decide +kernel) ?_
                          refine lv_isub hx hb dX9_nodes_33 ?_
                          refine lv_topi (fun z_25 ez_25 => ?_)
                          try have tz_25 : z_25.toInt = ((f + 64 : Nat) : Int) - (1 : Int) := by rw [ez_25]; exact my_subI (nI_toInt (by omega)) (by decide +kernel) (by omega) (by omega)
                          refine my_gpI (my_pV (As := [.int 0, .int (nI f), .int z_25]) (rest := []) (ci := 9) ⟨hx, hb, hml, hown, hts⟩ (cwV 3 hts gX9_nodes_X9_within rfl rfl rfl (by decide +kernel) ⟨Nat.le_of_ble_eq_true rfl, Nat.le_of_ble_eq_true rfl⟩) hN hK hP [0, 1] rfl 0 rfl rfl rfl rfl hl.1 rfl (Nat.le_of_ble_eq_true rfl) dX9_nodes_34 ⟨Nat.le_of_ble_eq_true rfl, Nat.le_of_ble_eq_true rfl⟩  (k0_X9_within l D cI cJ cK m0 a_row a_tape a_number a_read a_readBits a_stands a_parted a_bitsWere a_stood a_chosen a_bestChosen a_often a_sorted a_risen a_risenWays m_thrown m_told m_taped m_at m_to m_many m_readMany m_fewest m_size mf (nI f) ((f : Nat) : Int) (nI_toInt (by omega)) z_25 z_25.toInt rfl (by first | assumption | omega | decide +kernel) (by first | assumption | omega | decide +kernel) (by first | assumption | omega | decide +kernel) (by first | assumption | omega | decide +kernel) (by first | assumption | omega | decide +kernel) (by first | assumption | omega | decide +kernel) (by first | assumption | omega | decide +kernel) (by first | assumption | omega | decide +kernel))) (fun r hp => ?_)
                          obtain _ := hp
                          obtain ⟨r_26, rfl⟩ : ∃ z, z = r := ⟨_, rfl⟩
                          refine lv_istore (lv' := [(6, .int r_26), (5, .int (nI f)), (4, .int 64), (3, .int y3_15), (0, .ref m0), (1, .int m9), (2, .int 0)]) hx hb dX9_nodes_37 hl (by decide) rfl (fun ls hl => ?_)
                          refine lv_iload_n hx hb dX9_nodes_39 rfl (lv_at hl 3 rfl) ?_
                          refine lv_iload hx hb dX9_nodes_40 (lv_at hl 0 rfl) ?_
                          refine lv_iload_n hx hb dX9_nodes_42 rfl (lv_at hl 5 rfl) ?_
                          refine lv_icmp_lt (tgt := 72) hx hb dX9_nodes_43 (by decide) (fun c43 => ?_) (fun c43 => ?_)
                          ·
                            have d43 : r_26.toInt < m9.toInt := my_lt c43 rfl rfl
                            refine lv_iconst (v := 0) hx hb dX9_nodes_72 (by decide +kernel) ?_
                            refine my_gpI (my_pS (As := [.int 0]) (rest := [.int y3_15]) ⟨hx, hb, hml, hown, hts⟩ (va_cwS 1 hts gX9_nodes_X9_flag rfl rfl rfl (by decide +kernel) ⟨Nat.le_of_ble_eq_true rfl, Nat.le_of_ble_eq_true rfl⟩) hN hK hP [] rfl rfl hl.1 rfl (Nat.le_of_ble_eq_true rfl) dX9_nodes_73 ⟨Nat.le_of_ble_eq_true rfl, Nat.le_of_ble_eq_true rfl⟩  (k0_X9_flag l D cI cJ cK )) (fun r hp => ?_)
                            obtain rfl := hp
                            refine lv_iadd hx hb dX9_nodes_76 ?_
                            refine lv_topi (fun z_27 ez_27 => ?_)
                            try have tz_27 : z_27.toInt = y3_15.toInt + (0 : Int) := by rw [ez_27]; exact my_addI rfl (by decide +kernel) (by omega) (by omega)
                            refine lv_istore_n (lv' := [(3, .int z_27), (6, .int r_26), (5, .int (nI f)), (4, .int 64), (0, .ref m0), (1, .int m9), (2, .int 0)]) hx hb dX9_nodes_77 rfl hl (by decide) rfl (fun ls hl => ?_)
                            refine lv_iload hx hb dX9_nodes_78 (lv_at hl 2 rfl) ?_
                            refine lv_iload hx hb dX9_nodes_80 (lv_at hl 3 rfl) ?_
                            refine lv_iadd hx hb dX9_nodes_82 ?_
                            refine my_eqi (y := nI (f + 64)) (my_addN f 64) ?_
                            refine lv_istore (lv' := [(5, .int (nI (f + 64))), (3, .int z_27), (6, .int r_26), (4, .int 64), (0, .ref m0), (1, .int m9), (2, .int 0)]) hx hb dX9_nodes_83 hl (by decide) rfl (fun ls hl => ?_)
                            refine lv_goto (tgt := 15) hx hb dX9_nodes_85 (by decide) ?_
                            exact ih15  (f + 64) z_27 (by omega) (by first | assumption | omega | decide +kernel) ls (lv_sub hl [0, 3, 1, 4, 5, 6] rfl)
                          ·
                            have d43 : r_26.toInt ≥ m9.toInt := my_nlt c43 rfl rfl
                            refine lv_iload_n hx hb dX9_nodes_46 rfl (lv_at hl 6 rfl) ?_
                            refine lv_if_eq (tgt := 68) hx hb dX9_nodes_47 (by decide) (fun c47 => ?_) (fun c47 => ?_)
                            ·
                              refine lv_iconst (v := 1) hx hb dX9_nodes_68 (by decide +kernel) ?_
                              refine lv_goto (tgt := 73) hx hb dX9_nodes_69 (by decide) ?_
                              refine my_gpI (my_pS (As := [.int 1]) (rest := [.int y3_15]) ⟨hx, hb, hml, hown, hts⟩ (va_cwS 1 hts gX9_nodes_X9_flag rfl rfl rfl (by decide +kernel) ⟨Nat.le_of_ble_eq_true rfl, Nat.le_of_ble_eq_true rfl⟩) hN hK hP [] rfl rfl hl.1 rfl (Nat.le_of_ble_eq_true rfl) dX9_nodes_73 ⟨Nat.le_of_ble_eq_true rfl, Nat.le_of_ble_eq_true rfl⟩  (k1_X9_flag l D cI cJ cK )) (fun r hp => ?_)
                              obtain rfl := hp
                              refine lv_iadd hx hb dX9_nodes_76 ?_
                              refine lv_topi (fun z_28 ez_28 => ?_)
                              try have tz_28 : z_28.toInt = y3_15.toInt + (1 : Int) := by rw [ez_28]; exact my_addI rfl (by decide +kernel) (by omega) (by omega)
                              refine lv_istore_n (lv' := [(3, .int z_28), (6, .int r_26), (5, .int (nI f)), (4, .int 64), (0, .ref m0), (1, .int m9), (2, .int 0)]) hx hb dX9_nodes_77 rfl hl (by decide) rfl (fun ls hl => ?_)
                              refine lv_iload hx hb dX9_nodes_78 (lv_at hl 2 rfl) ?_
                              refine lv_iload hx hb dX9_nodes_80 (lv_at hl 3 rfl) ?_
                              refine lv_iadd hx hb dX9_nodes_82 ?_
                              refine my_eqi (y := nI (f + 64)) (my_addN f 64) ?_
                              refine lv_istore (lv' := [(5, .int (nI (f + 64))), (3, .int z_28), (6, .int r_26), (4, .int 64), (0, .ref m0), (1, .int m9), (2, .int 0)]) hx hb dX9_nodes_83 hl (by decide) rfl (fun ls hl => ?_)
                              refine lv_goto (tgt := 15) hx hb dX9_nodes_85 (by decide) ?_
                              exact ih15  (f + 64) z_28 (by omega) (by first | assumption | omega | decide +kernel) ls (lv_sub hl [0, 3, 1, 4, 5, 6] rfl)
                            ·
                              exact absurd c47 (by decide +kernel)
                    exact loop15 ((512 - 0) + 1) 0 y3_15 (Nat.lt_succ_self _) (by first | assumption | omega | decide +kernel) ls (lv_sub hl [0, 1, 2, 3, 4, 5] rfl)
                ·
                  have d20 : ((f : Nat) : Int) < (256 : Int) := my_nge c20 (nI_toInt (by omega)) (by decide +kernel)
                  refine lv_aload_n hx hb dX9_nodes_23 rfl (lv_at hl 3 rfl) ?_
                  refine lv_iconst (v := 0) hx hb dX9_nodes_24 (by decide +kernel) ?_
                  refine lv_iload hx hb dX9_nodes_25 (lv_at hl 0 rfl) ?_
                  refine lv_iload hx hb dX9_nodes_27 (lv_at hl 0 rfl) ?_
                  refine lv_iload hx hb dX9_nodes_29 (lv_at hl 1 rfl) ?_
                  refine lv_iadd hx hb dX9_nodes_31 ?_
                  refine my_eqi (y := nI (f + 128)) (my_addN f 128) ?_
                  refine lv_iconst (v := 1) hx hb dX9_nodes_32 (by decide +kernel) ?_
                  refine lv_isub hx hb dX9_nodes_33 ?_
                  refine lv_topi (fun z_29 ez_29 => ?_)
                  try have tz_29 : z_29.toInt = ((f + 128 : Nat) : Int) - (1 : Int) := by rw [ez_29]; exact my_subI (nI_toInt (by omega)) (by decide +kernel) (by omega) (by omega)
                  refine my_gpI (my_pV (As := [.int 0, .int (nI f), .int z_29]) (rest := []) (ci := 9) ⟨hx, hb, hml, hown, hts⟩ (cwV 3 hts gX9_nodes_X9_within rfl rfl rfl (by decide +kernel) ⟨Nat.le_of_ble_eq_true rfl, Nat.le_of_ble_eq_true rfl⟩) hN hK hP [0, 1] rfl 0 rfl rfl rfl rfl hl.1 rfl (Nat.le_of_ble_eq_true rfl) dX9_nodes_34 ⟨Nat.le_of_ble_eq_true rfl, Nat.le_of_ble_eq_true rfl⟩  (k0_X9_within l D cI cJ cK m0 a_row a_tape a_number a_read a_readBits a_stands a_parted a_bitsWere a_stood a_chosen a_bestChosen a_often a_sorted a_risen a_risenWays m_thrown m_told m_taped m_at m_to m_many m_readMany m_fewest m_size mf (nI f) ((f : Nat) : Int) (nI_toInt (by omega)) z_29 z_29.toInt rfl (by first | assumption | omega | decide +kernel) (by first | assumption | omega | decide +kernel) (by first | assumption | omega | decide +kernel) (by first | assumption | omega | decide +kernel) (by first | assumption | omega | decide +kernel) (by first | assumption | omega | decide +kernel) (by first | assumption | omega | decide +kernel) (by first | assumption | omega | decide +kernel))) (fun r hp => ?_)
                  obtain _ := hp
                  obtain ⟨r_30, rfl⟩ : ∃ z, z = r := ⟨_, rfl⟩
                  refine lv_istore (lv' := [(6, .int r_30), (5, .int (nI f)), (4, .int 128), (3, .int y3_15), (0, .ref m0), (1, .int m9), (2, .int 0)]) hx hb dX9_nodes_37 hl (by decide) rfl (fun ls hl => ?_)
                  refine lv_iload_n hx hb dX9_nodes_39 rfl (lv_at hl 3 rfl) ?_
                  refine lv_iload hx hb dX9_nodes_40 (lv_at hl 0 rfl) ?_
                  refine lv_iload_n hx hb dX9_nodes_42 rfl (lv_at hl 5 rfl) ?_
                  refine lv_icmp_lt (tgt := 72) hx hb dX9_nodes_43 (by decide) (fun c43 => ?_) (fun c43 => ?_)
                  ·
                    have d43 : r_30.toInt < m9.toInt := my_lt c43 rfl rfl
                    refine lv_iconst (v := 0) hx hb dX9_nodes_72 (by decide +kernel) ?_
                    refine my_gpI (my_pS (As := [.int 0]) (rest := [.int y3_15]) ⟨hx, hb, hml, hown, hts⟩ (va_cwS 1 hts gX9_nodes_X9_flag rfl rfl rfl (by decide +kernel) ⟨Nat.le_of_ble_eq_true rfl, Nat.le_of_ble_eq_true rfl⟩) hN hK hP [] rfl rfl hl.1 rfl (Nat.le_of_ble_eq_true rfl) dX9_nodes_73 ⟨Nat.le_of_ble_eq_true rfl, Nat.le_of_ble_eq_true rfl⟩  (k0_X9_flag l D cI cJ cK )) (fun r hp => ?_)
                    obtain rfl := hp
                    refine lv_iadd hx hb dX9_nodes_76 ?_
                    refine lv_topi (fun z_31 ez_31 => ?_)
                    try have tz_31 : z_31.toInt = y3_15.toInt + (0 : Int) := by rw [ez_31]; exact my_addI rfl (by decide +kernel) (by omega) (by omega)
                    refine lv_istore_n (lv' := [(3, .int z_31), (6, .int r_30), (5, .int (nI f)), (4, .int 128), (0, .ref m0), (1, .int m9), (2, .int 0)]) hx hb dX9_nodes_77 rfl hl (by decide) rfl (fun ls hl => ?_)
                    refine lv_iload hx hb dX9_nodes_78 (lv_at hl 2 rfl) ?_
                    refine lv_iload hx hb dX9_nodes_80 (lv_at hl 3 rfl) ?_
                    refine lv_iadd hx hb dX9_nodes_82 ?_
                    refine my_eqi (y := nI (f + 128)) (my_addN f 128) ?_
                    refine lv_istore (lv' := [(5, .int (nI (f + 128))), (3, .int z_31), (6, .int r_30), (4, .int 128), (0, .ref m0), (1, .int m9), (2, .int 0)]) hx hb dX9_nodes_83 hl (by decide) rfl (fun ls hl => ?_)
                    refine lv_goto (tgt := 15) hx hb dX9_nodes_85 (by decide) ?_
                    exact ih15  (f + 128) z_31 (by omega) (by first | assumption | omega | decide +kernel) ls (lv_sub hl [0, 3, 1, 4, 5, 6] rfl)
                  ·
                    have d43 : r_30.toInt ≥ m9.toInt := my_nlt c43 rfl rfl
                    refine lv_iload_n hx hb dX9_nodes_46 rfl (lv_at hl 6 rfl) ?_
                    refine lv_if_eq (tgt := 68) hx hb dX9_nodes_47 (by decide) (fun c47 => ?_) (fun c47 => ?_)
                    ·
                      refine lv_iconst (v := 1) hx hb dX9_nodes_68 (by decide +kernel) ?_
                      refine lv_goto (tgt := 73) hx hb dX9_nodes_69 (by decide) ?_
                      refine my_gpI (my_pS (As := [.int 1]) (rest := [.int y3_15]) ⟨hx, hb, hml, hown, hts⟩ (va_cwS 1 hts gX9_nodes_X9_flag rfl rfl rfl (by decide +kernel) ⟨Nat.le_of_ble_eq_true rfl, Nat.le_of_ble_eq_true rfl⟩) hN hK hP [] rfl rfl hl.1 rfl (Nat.le_of_ble_eq_true rfl) dX9_nodes_73 ⟨Nat.le_of_ble_eq_true rfl, Nat.le_of_ble_eq_true rfl⟩  (k1_X9_flag l D cI cJ cK )) (fun r hp => ?_)
                      obtain rfl := hp
                      refine lv_iadd hx hb dX9_nodes_76 ?_
                      refine lv_topi (fun z_32 ez_32 => ?_)
                      try have tz_32 : z_32.toInt = y3_15.toInt + (1 : Int) := by rw [ez_32]; exact my_addI rfl (by decide +kernel) (by omega) (by omega)
                      refine lv_istore_n (lv' := [(3, .int z_32), (6, .int r_30), (5, .int (nI f)), (4, .int 128), (0, .ref m0), (1, .int m9), (2, .int 0)]) hx hb dX9_nodes_77 rfl hl (by decide) rfl (fun ls hl => ?_)
                      refine lv_iload hx hb dX9_nodes_78 (lv_at hl 2 rfl) ?_
                      refine lv_iload hx hb dX9_nodes_80 (lv_at hl 3 rfl) ?_
                      refine lv_iadd hx hb dX9_nodes_82 ?_
                      refine my_eqi (y := nI (f + 128)) (my_addN f 128) ?_
                      refine lv_istore (lv' := [(5, .int (nI (f + 128))), (3, .int z_32), (6, .int r_30), (4, .int 128), (0, .ref m0), (1, .int m9), (2, .int 0)]) hx hb dX9_nodes_83 hl (by decide) rfl (fun ls hl => ?_)
                      refine lv_goto (tgt := 15) hx hb dX9_nodes_85 (by decide) ?_
                      exact ih15  (f + 128) z_32 (by omega) (by first | assumption | omega | decide +kernel) ls (lv_sub hl [0, 3, 1, 4, 5, 6] rfl)
                    ·
                      exact absurd c47 (by decide +kernel)
            exact loop15 ((512 - 0) + 1) 0 y3_15 (Nat.lt_succ_self _) (by first | assumption | omega | decide +kernel) ls (lv_sub hl [0, 1, 2, 3, 4, 5] rfl)
        ·
          have d20 : ((f : Nat) : Int) < (256 : Int) := my_nge c20 (nI_toInt (by omega)) (by decide +kernel)
          refine lv_aload_n hx hb dX9_nodes_23 rfl (lv_at hl 3 rfl) ?_
          refine lv_iconst (v := 0) hx hb dX9_nodes_24 (by decide +kernel) ?_
          refine lv_iload hx hb dX9_nodes_25 (lv_at hl 0 rfl) ?_
          refine lv_iload hx hb dX9_nodes_27 (lv_at hl 0 rfl) ?_
          refine lv_iload hx hb dX9_nodes_29 (lv_at hl 1 rfl) ?_
          refine lv_iadd hx hb dX9_nodes_31 ?_
          refine my_eqi (y := nI (f + 256)) (my_addN f 256) ?_
          refine lv_iconst (v := 1) hx hb dX9_nodes_32 (by decide +kernel) ?_
          refine lv_isub hx hb dX9_nodes_33 ?_
          refine lv_topi (fun z_33 ez_33 => ?_)
          try have tz_33 : z_33.toInt = ((f + 256 : Nat) : Int) - (1 : Int) := by rw [ez_33]; exact my_subI (nI_toInt (by omega)) (by decide +kernel) (by omega) (by omega)
          refine my_gpI (my_pV (As := [.int 0, .int (nI f), .int z_33]) (rest := []) (ci := 9) ⟨hx, hb, hml, hown, hts⟩ (cwV 3 hts gX9_nodes_X9_within rfl rfl rfl (by decide +kernel) ⟨Nat.le_of_ble_eq_true rfl, Nat.le_of_ble_eq_true rfl⟩) hN hK hP [0, 1] rfl 0 rfl rfl rfl rfl hl.1 rfl (Nat.le_of_ble_eq_true rfl) dX9_nodes_34 ⟨Nat.le_of_ble_eq_true rfl, Nat.le_of_ble_eq_true rfl⟩  (k0_X9_within l D cI cJ cK m0 a_row a_tape a_number a_read a_readBits a_stands a_parted a_bitsWere a_stood a_chosen a_bestChosen a_often a_sorted a_risen a_risenWays m_thrown m_told m_taped m_at m_to m_many m_readMany m_fewest m_size mf (nI f) ((f : Nat) : Int) (nI_toInt (by omega)) z_33 z_33.toInt rfl (by first | assumption | omega | decide +kernel) (by first | assumption | omega | decide +kernel) (by first | assumption | omega | decide +kernel) (by first | assumption | omega | decide +kernel) (by first | assumption | omega | decide +kernel) (by first | assumption | omega | decide +kernel) (by first | assumption | omega | decide +kernel) (by first | assumption | omega | decide +kernel))) (fun r hp => ?_)
          obtain _ := hp
          obtain ⟨r_34, rfl⟩ : ∃ z, z = r := ⟨_, rfl⟩
          refine lv_istore (lv' := [(6, .int r_34), (5, .int (nI f)), (4, .int 256), (3, .int y3_15), (0, .ref m0), (1, .int m9), (2, .int 0)]) hx hb dX9_nodes_37 hl (by decide) rfl (fun ls hl => ?_)
          refine lv_iload_n hx hb dX9_nodes_39 rfl (lv_at hl 3 rfl) ?_
          refine lv_iload hx hb dX9_nodes_40 (lv_at hl 0 rfl) ?_
          refine lv_iload_n hx hb dX9_nodes_42 rfl (lv_at hl 5 rfl) ?_
          refine lv_icmp_lt (tgt := 72) hx hb dX9_nodes_43 (by decide) (fun c43 => ?_) (fun c43 => ?_)
          ·
            have d43 : r_34.toInt < m9.toInt := my_lt c43 rfl rfl
            refine lv_iconst (v := 0) hx hb dX9_nodes_72 (by decide +kernel) ?_
            refine my_gpI (my_pS (As := [.int 0]) (rest := [.int y3_15]) ⟨hx, hb, hml, hown, hts⟩ (va_cwS 1 hts gX9_nodes_X9_flag rfl rfl rfl (by decide +kernel) ⟨Nat.le_of_ble_eq_true rfl, Nat.le_of_ble_eq_true rfl⟩) hN hK hP [] rfl rfl hl.1 rfl (Nat.le_of_ble_eq_true rfl) dX9_nodes_73 ⟨Nat.le_of_ble_eq_true rfl, Nat.le_of_ble_eq_true rfl⟩  (k0_X9_flag l D cI cJ cK )) (fun r hp => ?_)
            obtain rfl := hp
            refine lv_iadd hx hb dX9_nodes_76 ?_
            refine lv_topi (fun z_35 ez_35 => ?_)
            try have tz_35 : z_35.toInt = y3_15.toInt + (0 : Int) := by rw [ez_35]; exact my_addI rfl (by decide +kernel) (by omega) (by omega)
            refine lv_istore_n (lv' := [(3, .int z_35), (6, .int r_34), (5, .int (nI f)), (4, .int 256), (0, .ref m0), (1, .int m9), (2, .int 0)]) hx hb dX9_nodes_77 rfl hl (by decide) rfl (fun ls hl => ?_)
            refine lv_iload hx hb dX9_nodes_78 (lv_at hl 2 rfl) ?_
            refine lv_iload hx hb dX9_nodes_80 (lv_at hl 3 rfl) ?_
            refine lv_iadd hx hb dX9_nodes_82 ?_
            refine my_eqi (y := nI (f + 256)) (my_addN f 256) ?_
            refine lv_istore (lv' := [(5, .int (nI (f + 256))), (3, .int z_35), (6, .int r_34), (4, .int 256), (0, .ref m0), (1, .int m9), (2, .int 0)]) hx hb dX9_nodes_83 hl (by decide) rfl (fun ls hl => ?_)
            refine lv_goto (tgt := 15) hx hb dX9_nodes_85 (by decide) ?_
            exact ih15  (f + 256) z_35 (by omega) (by first | assumption | omega | decide +kernel) ls (lv_sub hl [0, 3, 1, 4, 5, 6] rfl)
          ·
            have d43 : r_34.toInt ≥ m9.toInt := my_nlt c43 rfl rfl
            refine lv_iload_n hx hb dX9_nodes_46 rfl (lv_at hl 6 rfl) ?_
            refine lv_if_eq (tgt := 68) hx hb dX9_nodes_47 (by decide) (fun c47 => ?_) (fun c47 => ?_)
            ·
              refine lv_iconst (v := 1) hx hb dX9_nodes_68 (by decide +kernel) ?_
              refine lv_goto (tgt := 73) hx hb dX9_nodes_69 (by decide) ?_
              refine my_gpI (my_pS (As := [.int 1]) (rest := [.int y3_15]) ⟨hx, hb, hml, hown, hts⟩ (va_cwS 1 hts gX9_nodes_X9_flag rfl rfl rfl (by decide +kernel) ⟨Nat.le_of_ble_eq_true rfl, Nat.le_of_ble_eq_true rfl⟩) hN hK hP [] rfl rfl hl.1 rfl (Nat.le_of_ble_eq_true rfl) dX9_nodes_73 ⟨Nat.le_of_ble_eq_true rfl, Nat.le_of_ble_eq_true rfl⟩  (k1_X9_flag l D cI cJ cK )) (fun r hp => ?_)
              obtain rfl := hp
              refine lv_iadd hx hb dX9_nodes_76 ?_
              refine lv_topi (fun z_36 ez_36 => ?_)
              try have tz_36 : z_36.toInt = y3_15.toInt + (1 : Int) := by rw [ez_36]; exact my_addI rfl (by decide +kernel) (by omega) (by omega)
              refine lv_istore_n (lv' := [(3, .int z_36), (6, .int r_34), (5, .int (nI f)), (4, .int 256), (0, .ref m0), (1, .int m9), (2, .int 0)]) hx hb dX9_nodes_77 rfl hl (by decide) rfl (fun ls hl => ?_)
              refine lv_iload hx hb dX9_nodes_78 (lv_at hl 2 rfl) ?_
              refine lv_iload hx hb dX9_nodes_80 (lv_at hl 3 rfl) ?_
              refine lv_iadd hx hb dX9_nodes_82 ?_
              refine my_eqi (y := nI (f + 256)) (my_addN f 256) ?_
              refine lv_istore (lv' := [(5, .int (nI (f + 256))), (3, .int z_36), (6, .int r_34), (4, .int 256), (0, .ref m0), (1, .int m9), (2, .int 0)]) hx hb dX9_nodes_83 hl (by decide) rfl (fun ls hl => ?_)
              refine lv_goto (tgt := 15) hx hb dX9_nodes_85 (by decide) ?_
              exact ih15  (f + 256) z_36 (by omega) (by first | assumption | omega | decide +kernel) ls (lv_sub hl [0, 3, 1, 4, 5, 6] rfl)
            ·
              exact absurd c47 (by decide +kernel)
    have ec_37 : (0 : Int32).toInt = 0 := by decide +kernel
    exact loop15 ((512 - 0) + 1) 0 (0 : Int32) (Nat.lt_succ_self _) (by first | assumption | omega | decide +kernel) ls (lv_sub hl [0, 1, 2, 3, 4, 5] rfl)
set_option maxHeartbeats 4000000 in
set_option maxRecDepth 100000 in
theorem k1_X9_nodes (l : Launch) (D : va_G) (cI cJ cK : ClassId) (m0 : Nat) (a_row : Nat) (a_tape : Nat) (a_number : Nat) (a_read : Nat) (a_readBits : Nat) (a_stands : Nat) (a_parted : Nat) (a_bitsWere : Nat) (a_stood : Nat) (a_chosen : Nat) (a_bestChosen : Nat) (a_often : Nat) (a_sorted : Nat) (a_risen : Nat) (a_risenWays : Nat) (m_thrown : Int32) (m_told : Nat) (m_taped : Nat) (m_at : Nat) (m_to : Nat) (m_many : Nat) (m_readMany : Nat) (m_fewest : Int32) (m_size : Nat) (mf : Nat → Int32) (m9 : Int32) (hz_m_told : m_told ≤ 64) (hz_m_taped : m_taped ≤ 100) (hz_m_at : m_at ≤ 100) (hz_m_to : m_to ≤ 100) (hz_m_many : m_many ≤ 64) (hz_m_readMany : m_readMany ≤ 64) (hz_m_size : m_size ≤ 64) : cpI l yX9_nodes wsX9_nodes ({ frames := 2, cells := 0, slots := 0, locals := 120 } : Room) D (tyIJ cI cJ cK) [.ref m0, .int m9, .int 1] [(m0, .inr (9, [.int m_thrown, .int (nI m_told), .ref a_row, .ref a_tape, .int (nI m_taped), .int (nI m_at), .int (nI m_to), .int (nI m_many), .ref a_number, .ref a_read, .int (nI m_readMany), .ref a_readBits, .ref a_stands, .ref a_parted, .ref a_bitsWere, .ref a_stood, .ref a_chosen, .ref a_bestChosen, .int m_fewest, .ref a_often, .ref a_sorted, .int (nI m_size), .ref a_risen, .ref a_risenWays])), (a_often, .inl (cI, 512, .inl mf))] (fun (r : Int32) => True) := by
  refine cpI.of (cc := cX9_nodes) (maxL := 7) (ret := (some .int)) (by decide) rfl (Nat.le_of_ble_eq_true rfl) ?_
  intro p e s m below meth c ls hx hb hr hts hown hml hlocks hname hK hN hP hl
  have hl : lv_has ls 7 [(0, .ref m0), (1, .int m9), (2, .int 1)] := hl
  have hown : s.vm.findClass RX9 = some m.cls := hown
  refine lv_iconst (v := 0) hx hb dX9_nodes_0 (by decide +kernel) ?_
  refine lv_istore_n (lv' := [(3, .int 0), (0, .ref m0), (1, .int m9), (2, .int 1)]) hx hb dX9_nodes_1 rfl hl (by decide) rfl (fun ls hl => ?_)
  refine lv_sipush (v := 256) hx hb dX9_nodes_2 (by decide +kernel) ?_
  refine lv_istore (lv' := [(4, .int 256), (3, .int 0), (0, .ref m0), (1, .int m9), (2, .int 1)]) hx hb dX9_nodes_5 hl (by decide) rfl (fun ls hl => ?_)
  refine lv_iload hx hb dX9_nodes_7 (lv_at hl 0 rfl) ?_
  refine lv_if_le (tgt := 97) hx hb dX9_nodes_9 (by decide) (fun c9 => ?_) (fun c9 => ?_)
  ·
    exact absurd c9 (by decide +kernel)
  ·
    refine lv_iconst (v := 0) hx hb dX9_nodes_12 (by decide +kernel) ?_
    refine lv_istore (lv' := [(5, .int 0), (4, .int 256), (3, .int 0), (0, .ref m0), (1, .int m9), (2, .int 1)]) hx hb dX9_nodes_13 hl (by decide) rfl (fun ls hl => ?_)
    have loop15 : ∀ (n9 : Nat) (f : Nat) (y3_15 : Int32), 512 - f < n9 → (f ≤ 511) → ∀ (ls : Array Slot), lv_has ls 7 [(5, .int (nI f)), (4, .int 256), (3, .int y3_15), (0, .ref m0), (1, .int m9), (2, .int 1)] → W p l e ({ frames := 2, cells := 0, slots := 0, locals := 120 } : Room) s m [.ref m0, .int m9, .int 1].toArray below meth c s.heap [] 0 0 (MQ below (vp_Si (fun (r : Int32) => True)) [.ref m0, .int m9, .int 1].toArray s 0 0 (fun _ => False)) (F0 m 15 ls []) := by
      intro n9
      induction n9 with
      | zero =>
        intro f y3_15 hn9
        exact absurd hn9 (Nat.not_lt_zero _)
      | succ n9 ih15 =>
        intro f y3_15 hn9 hk_f ls hl
        refine lv_iload hx hb dX9_nodes_15 (lv_at hl 0 rfl) ?_
        refine lv_sipush (v := 256) hx hb dX9_nodes_17 (by decide +kernel) ?_
        refine lv_icmp_ge (tgt := 88) hx hb dX9_nodes_20 (by decide) (fun c20 => ?_) (fun c20 => ?_)
        ·
          have d20 : ((f : Nat) : Int) ≥ (256 : Int) := my_ge c20 (nI_toInt (by omega)) (by decide +kernel)
          refine lv_iload hx hb dX9_nodes_88 (lv_at hl 1 rfl) ?_
          refine lv_iconst (v := 2) hx hb dX9_nodes_90 (by decide +kernel) ?_
          refine lv_idiv hx hb dX9_nodes_91 (by decide +kernel) ?_
          refine my_eqi (y := 128) (by decide +kernel) ?_
          refine lv_istore (lv' := [(4, .int 128), (5, .int (nI f)), (3, .int y3_15), (0, .ref m0), (1, .int m9), (2, .int 1)]) hx hb dX9_nodes_92 hl (by decide) rfl (fun ls hl => ?_)
          refine lv_goto (tgt := 7) hx hb dX9_nodes_94 (by decide) ?_
          refine lv_iload hx hb dX9_nodes_7 (lv_at hl 0 rfl) ?_
          refine lv_if_le (tgt := 97) hx hb dX9_nodes_9 (by decide) (fun c9 => ?_) (fun c9 => ?_)
          ·
            exact absurd c9 (by decide +kernel)
          ·
            refine lv_iconst (v := 0) hx hb dX9_nodes_12 (by decide +kernel) ?_
            refine lv_istore (lv' := [(5, .int 0), (4, .int 128), (3, .int y3_15), (0, .ref m0), (1, .int m9), (2, .int 1)]) hx hb dX9_nodes_13 hl (by decide) rfl (fun ls hl => ?_)
            have loop15 : ∀ (n9 : Nat) (f : Nat) (y3_15 : Int32), 512 - f < n9 → (f ≤ 511) → ∀ (ls : Array Slot), lv_has ls 7 [(5, .int (nI f)), (4, .int 128), (3, .int y3_15), (0, .ref m0), (1, .int m9), (2, .int 1)] → W p l e ({ frames := 2, cells := 0, slots := 0, locals := 120 } : Room) s m [.ref m0, .int m9, .int 1].toArray below meth c s.heap [] 0 0 (MQ below (vp_Si (fun (r : Int32) => True)) [.ref m0, .int m9, .int 1].toArray s 0 0 (fun _ => False)) (F0 m 15 ls []) := by
              intro n9
              induction n9 with
              | zero =>
                intro f y3_15 hn9
                exact absurd hn9 (Nat.not_lt_zero _)
              | succ n9 ih15 =>
                intro f y3_15 hn9 hk_f ls hl
                refine lv_iload hx hb dX9_nodes_15 (lv_at hl 0 rfl) ?_
                refine lv_sipush (v := 256) hx hb dX9_nodes_17 (by decide +kernel) ?_
                refine lv_icmp_ge (tgt := 88) hx hb dX9_nodes_20 (by decide) (fun c20 => ?_) (fun c20 => ?_)
                ·
                  have d20 : ((f : Nat) : Int) ≥ (256 : Int) := my_ge c20 (nI_toInt (by omega)) (by decide +kernel)
                  refine lv_iload hx hb dX9_nodes_88 (lv_at hl 1 rfl) ?_
                  refine lv_iconst (v := 2) hx hb dX9_nodes_90 (by decide +kernel) ?_
                  refine lv_idiv hx hb dX9_nodes_91 (by decide +kernel) ?_
                  refine my_eqi (y := 64) (by decide +kernel) ?_
                  refine lv_istore (lv' := [(4, .int 64), (5, .int (nI f)), (3, .int y3_15), (0, .ref m0), (1, .int m9), (2, .int 1)]) hx hb dX9_nodes_92 hl (by decide) rfl (fun ls hl => ?_)
                  refine lv_goto (tgt := 7) hx hb dX9_nodes_94 (by decide) ?_
                  refine lv_iload hx hb dX9_nodes_7 (lv_at hl 0 rfl) ?_
                  refine lv_if_le (tgt := 97) hx hb dX9_nodes_9 (by decide) (fun c9 => ?_) (fun c9 => ?_)
                  ·
                    exact absurd c9 (by decide +kernel)
                  ·
                    refine lv_iconst (v := 0) hx hb dX9_nodes_12 (by decide +kernel) ?_
                    refine lv_istore (lv' := [(5, .int 0), (4, .int 64), (3, .int y3_15), (0, .ref m0), (1, .int m9), (2, .int 1)]) hx hb dX9_nodes_13 hl (by decide) rfl (fun ls hl => ?_)
                    have loop15 : ∀ (n9 : Nat) (f : Nat) (y3_15 : Int32), 512 - f < n9 → (f ≤ 511) → ∀ (ls : Array Slot), lv_has ls 7 [(5, .int (nI f)), (4, .int 64), (3, .int y3_15), (0, .ref m0), (1, .int m9), (2, .int 1)] → W p l e ({ frames := 2, cells := 0, slots := 0, locals := 120 } : Room) s m [.ref m0, .int m9, .int 1].toArray below meth c s.heap [] 0 0 (MQ below (vp_Si (fun (r : Int32) => True)) [.ref m0, .int m9, .int 1].toArray s 0 0 (fun _ => False)) (F0 m 15 ls []) := by
                      intro n9
                      induction n9 with
                      | zero =>
                        intro f y3_15 hn9
                        exact absurd hn9 (Nat.not_lt_zero _)
                      | succ n9 ih15 =>
                        intro f y3_15 hn9 hk_f ls hl
                        refine lv_iload hx hb dX9_nodes_15 (lv_at hl 0 rfl) ?_
                        refine lv_sipush (v := 256) hx hb dX9_nodes_17 (by decide +kernel) ?_
                        refine lv_icmp_ge (tgt := 88) hx hb dX9_nodes_20 (by decide) (fun c20 => ?_) (fun c20 => ?_)
                        ·
                          have d20 : ((f : Nat) : Int) ≥ (256 : Int) := my_ge c20 (nI_toInt (by omega)) (by decide +kernel)
                          refine lv_iload hx hb dX9_nodes_88 (lv_at hl 1 rfl) ?_
                          refine lv_iconst (v := 2) hx hb dX9_nodes_90 (by decide +kernel) ?_
                          refine lv_idiv hx hb dX9_nodes_91 (by decide +kernel) ?_
                          refine my_eqi (y := 32) (by decide +kernel) ?_
                          refine lv_istore (lv' := [(4, .int 32), (5, .int (nI f)), (3, .int y3_15), (0, .ref m0), (1, .int m9), (2, .int 1)]) hx hb dX9_nodes_92 hl (by decide) rfl (fun ls hl => ?_)
                          refine lv_goto (tgt := 7) hx hb dX9_nodes_94 (by decide) ?_
                          refine lv_iload hx hb dX9_nodes_7 (lv_at hl 0 rfl) ?_
                          refine lv_if_le (tgt := 97) hx hb dX9_nodes_9 (by decide) (fun c9 => ?_) (fun c9 => ?_)
                          ·
                            exact absurd c9 (by decide +kernel)
                          ·
                            refine lv_iconst (v := 0) hx hb dX9_nodes_12 (by decide +kernel) ?_
                            refine lv_istore (lv' := [(5, .int 0), (4, .int 32), (3, .int y3_15), (0, .ref m0), (1, .int m9), (2, .int 1)]) hx hb dX9_nodes_13 hl (by decide) rfl (fun ls hl => ?_)
                            have loop15 : ∀ (n9 : Nat) (f : Nat) (y3_15 : Int32), 512 - f < n9 → (f ≤ 511) → ∀ (ls : Array Slot), lv_has ls 7 [(5, .int (nI f)), (4, .int 32), (3, .int y3_15), (0, .ref m0), (1, .int m9), (2, .int 1)] → W p l e ({ frames := 2, cells := 0, slots := 0, locals := 120 } : Room) s m [.ref m0, .int m9, .int 1].toArray below meth c s.heap [] 0 0 (MQ below (vp_Si (fun (r : Int32) => True)) [.ref m0, .int m9, .int 1].toArray s 0 0 (fun _ => False)) (F0 m 15 ls []) := by
                              intro n9
                              induction n9 with
                              | zero =>
                                intro f y3_15 hn9
                                exact absurd hn9 (Nat.not_lt_zero _)
                              | succ n9 ih15 =>
                                intro f y3_15 hn9 hk_f ls hl
                                refine lv_iload hx hb dX9_nodes_15 (lv_at hl 0 rfl) ?_
                                refine lv_sipush (v := 256) hx hb dX9_nodes_17 (by decide +kernel) ?_
                                refine lv_icmp_ge (tgt := 88) hx hb dX9_nodes_20 (by decide) (fun c20 => ?_) (fun c20 => ?_)
                                ·
                                  have d20 : ((f : Nat) : Int) ≥ (256 : Int) := my_ge c20 (nI_toInt (by omega)) (by decide +kernel)
                                  refine lv_iload hx hb dX9_nodes_88 (lv_at hl 1 rfl) ?_
                                  refine lv_iconst (v := 2) hx hb dX9_nodes_90 (by decide +kernel) ?_
                                  refine lv_idiv hx hb dX9_nodes_91 (by decide +kernel) ?_
                                  refine my_eqi (y := 16) (by decide +kernel) ?_
                                  refine lv_istore (lv' := [(4, .int 16), (5, .int (nI f)), (3, .int y3_15), (0, .ref m0), (1, .int m9), (2, .int 1)]) hx hb dX9_nodes_92 hl (by decide) rfl (fun ls hl => ?_)
                                  refine lv_goto (tgt := 7) hx hb dX9_nodes_94 (by decide) ?_
                                  refine lv_iload hx hb dX9_nodes_7 (lv_at hl 0 rfl) ?_
                                  refine lv_if_le (tgt := 97) hx hb dX9_nodes_9 (by decide) (fun c9 => ?_) (fun c9 => ?_)
                                  ·
                                    exact absurd c9 (by decide +kernel)
                                  ·
                                    refine lv_iconst (v := 0) hx hb dX9_nodes_12 (by decide +kernel) ?_
                                    refine lv_istore (lv' := [(5, .int 0), (4, .int 16), (3, .int y3_15), (0, .ref m0), (1, .int m9), (2, .int 1)]) hx hb dX9_nodes_13 hl (by decide) rfl (fun ls hl => ?_)
                                    have loop15 : ∀ (n9 : Nat) (f : Nat) (y3_15 : Int32), 512 - f < n9 → (f ≤ 511) → ∀ (ls : Array Slot), lv_has ls 7 [(5, .int (nI f)), (4, .int 16), (3, .int y3_15), (0, .ref m0), (1, .int m9), (2, .int 1)] → W p l e ({ frames := 2, cells := 0, slots := 0, locals := 120 } : Room) s m [.ref m0, .int m9, .int 1].toArray below meth c s.heap [] 0 0 (MQ below (vp_Si (fun (r : Int32) => True)) [.ref m0, .int m9, .int 1].toArray s 0 0 (fun _ => False)) (F0 m 15 ls []) := by
                                      intro n9
                                      induction n9 with
                                      | zero =>
                                        intro f y3_15 hn9
                                        exact absurd hn9 (Nat.not_lt_zero _)
                                      | succ n9 ih15 =>
                                        intro f y3_15 hn9 hk_f ls hl
                                        refine lv_iload hx hb dX9_nodes_15 (lv_at hl 0 rfl) ?_
                                        refine lv_sipush (v := 256) hx hb dX9_nodes_17 (by decide +kernel) ?_
                                        refine lv_icmp_ge (tgt := 88) hx hb dX9_nodes_20 (by decide) (fun c20 => ?_) (fun c20 => ?_)
                                        ·
                                          have d20 : ((f : Nat) : Int) ≥ (256 : Int) := my_ge c20 (nI_toInt (by omega)) (by decide +kernel)
                                          refine lv_iload hx hb dX9_nodes_88 (lv_at hl 1 rfl) ?_
                                          refine lv_iconst (v := 2) hx hb dX9_nodes_90 (by decide +kernel) ?_
                                          refine lv_idiv hx hb dX9_nodes_91 (by decide +kernel) ?_
                                          refine my_eqi (y := 8) (by decide +kernel) ?_
                                          refine lv_istore (lv' := [(4, .int 8), (5, .int (nI f)), (3, .int y3_15), (0, .ref m0), (1, .int m9), (2, .int 1)]) hx hb dX9_nodes_92 hl (by decide) rfl (fun ls hl => ?_)
                                          refine lv_goto (tgt := 7) hx hb dX9_nodes_94 (by decide) ?_
                                          refine lv_iload hx hb dX9_nodes_7 (lv_at hl 0 rfl) ?_
                                          refine lv_if_le (tgt := 97) hx hb dX9_nodes_9 (by decide) (fun c9 => ?_) (fun c9 => ?_)
                                          ·
                                            exact absurd c9 (by decide +kernel)
                                          ·
                                            refine lv_iconst (v := 0) hx hb dX9_nodes_12 (by decide +kernel) ?_
                                            refine lv_istore (lv' := [(5, .int 0), (4, .int 8), (3, .int y3_15), (0, .ref m0), (1, .int m9), (2, .int 1)]) hx hb dX9_nodes_13 hl (by decide) rfl (fun ls hl => ?_)
                                            have loop15 : ∀ (n9 : Nat) (f : Nat) (y3_15 : Int32), 512 - f < n9 → (f ≤ 511) → ∀ (ls : Array Slot), lv_has ls 7 [(5, .int (nI f)), (4, .int 8), (3, .int y3_15), (0, .ref m0), (1, .int m9), (2, .int 1)] → W p l e ({ frames := 2, cells := 0, slots := 0, locals := 120 } : Room) s m [.ref m0, .int m9, .int 1].toArray below meth c s.heap [] 0 0 (MQ below (vp_Si (fun (r : Int32) => True)) [.ref m0, .int m9, .int 1].toArray s 0 0 (fun _ => False)) (F0 m 15 ls []) := by
                                              intro n9
                                              induction n9 with
                                              | zero =>
                                                intro f y3_15 hn9
                                                exact absurd hn9 (Nat.not_lt_zero _)
                                              | succ n9 ih15 =>
                                                intro f y3_15 hn9 hk_f ls hl
                                                refine lv_iload hx hb dX9_nodes_15 (lv_at hl 0 rfl) ?_
                                                refine lv_sipush (v := 256) hx hb dX9_nodes_17 (by decide +kernel) ?_
                                                refine lv_icmp_ge (tgt := 88) hx hb dX9_nodes_20 (by decide) (fun c20 => ?_) (fun c20 => ?_)
                                                ·
                                                  have d20 : ((f : Nat) : Int) ≥ (256 : Int) := my_ge c20 (nI_toInt (by omega)) (by decide +kernel)
                                                  refine lv_iload hx hb dX9_nodes_88 (lv_at hl 1 rfl) ?_
                                                  refine lv_iconst (v := 2) hx hb dX9_nodes_90 (by decide +kernel) ?_
                                                  refine lv_idiv hx hb dX9_nodes_91 (by decide +kernel) ?_
                                                  refine my_eqi (y := 4) (by decide +kernel) ?_
                                                  refine lv_istore (lv' := [(4, .int 4), (5, .int (nI f)), (3, .int y3_15), (0, .ref m0), (1, .int m9), (2, .int 1)]) hx hb dX9_nodes_92 hl (by decide) rfl (fun ls hl => ?_)
                                                  refine lv_goto (tgt := 7) hx hb dX9_nodes_94 (by decide) ?_
                                                  refine lv_iload hx hb dX9_nodes_7 (lv_at hl 0 rfl) ?_
                                                  refine lv_if_le (tgt := 97) hx hb dX9_nodes_9 (by decide) (fun c9 => ?_) (fun c9 => ?_)
                                                  ·
                                                    exact absurd c9 (by decide +kernel)
                                                  ·
                                                    refine lv_iconst (v := 0) hx hb dX9_nodes_12 (by decide +kernel) ?_
                                                    refine lv_istore (lv' := [(5, .int 0), (4, .int 4), (3, .int y3_15), (0, .ref m0), (1, .int m9), (2, .int 1)]) hx hb dX9_nodes_13 hl (by decide) rfl (fun ls hl => ?_)
                                                    have loop15 : ∀ (n9 : Nat) (f : Nat) (y3_15 : Int32), 512 - f < n9 → (f ≤ 511) → ∀ (ls : Array Slot), lv_has ls 7 [(5, .int (nI f)), (4, .int 4), (3, .int y3_15), (0, .ref m0), (1, .int m9), (2, .int 1)] → W p l e ({ frames := 2, cells := 0, slots := 0, locals := 120 } : Room) s m [.ref m0, .int m9, .int 1].toArray below meth c s.heap [] 0 0 (MQ below (vp_Si (fun (r : Int32) => True)) [.ref m0, .int m9, .int 1].toArray s 0 0 (fun _ => False)) (F0 m 15 ls []) := by
                                                      intro n9
                                                      induction n9 with
                                                      | zero =>
                                                        intro f y3_15 hn9
                                                        exact absurd hn9 (Nat.not_lt_zero _)
                                                      | succ n9 ih15 =>
                                                        intro f y3_15 hn9 hk_f ls hl
                                                        refine lv_iload hx hb dX9_nodes_15 (lv_at hl 0 rfl) ?_
                                                        refine lv_sipush (v := 256) hx hb dX9_nodes_17 (by decide +kernel) ?_
                                                        refine lv_icmp_ge (tgt := 88) hx hb dX9_nodes_20 (by decide) (fun c20 => ?_) (fun c20 => ?_)
                                                        ·
                                                          have d20 : ((f : Nat) : Int) ≥ (256 : Int) := my_ge c20 (nI_toInt (by omega)) (by decide +kernel)
                                                          refine lv_iload hx hb dX9_nodes_88 (lv_at hl 1 rfl) ?_
                                                          refine lv_iconst (v := 2) hx hb dX9_nodes_90 (by decide +kernel) ?_
                                                          refine lv_idiv hx hb dX9_nodes_91 (by decide +kernel) ?_
                                                          refine my_eqi (y := 2) (by decide +kernel) ?_
                                                          refine lv_istore (lv' := [(4, .int 2), (5, .int (nI f)), (3, .int y3_15), (0, .ref m0), (1, .int m9), (2, .int 1)]) hx hb dX9_nodes_92 hl (by decide) rfl (fun ls hl => ?_)
                                                          refine lv_goto (tgt := 7) hx hb dX9_nodes_94 (by decide) ?_
                                                          refine lv_iload hx hb dX9_nodes_7 (lv_at hl 0 rfl) ?_
                                                          refine lv_if_le (tgt := 97) hx hb dX9_nodes_9 (by decide) (fun c9 => ?_) (fun c9 => ?_)
                                                          ·
                                                            exact absurd c9 (by decide +kernel)
                                                          ·
                                                            refine lv_iconst (v := 0) hx hb dX9_nodes_12 (by decide +kernel) ?_
                                                            refine lv_istore (lv' := [(5, .int 0), (4, .int 2), (3, .int y3_15), (0, .ref m0), (1, .int m9), (2, .int 1)]) hx hb dX9_nodes_13 hl (by decide) rfl (fun ls hl => ?_)
                                                            have loop15 : ∀ (n9 : Nat) (f : Nat) (y3_15 : Int32), 512 - f < n9 → (f ≤ 511) → ∀ (ls : Array Slot), lv_has ls 7 [(5, .int (nI f)), (4, .int 2), (3, .int y3_15), (0, .ref m0), (1, .int m9), (2, .int 1)] → W p l e ({ frames := 2, cells := 0, slots := 0, locals := 120 } : Room) s m [.ref m0, .int m9, .int 1].toArray below meth c s.heap [] 0 0 (MQ below (vp_Si (fun (r : Int32) => True)) [.ref m0, .int m9, .int 1].toArray s 0 0 (fun _ => False)) (F0 m 15 ls []) := by
                                                              intro n9
                                                              induction n9 with
                                                              | zero =>
                                                                intro f y3_15 hn9
                                                                exact absurd hn9 (Nat.not_lt_zero _)
                                                              | succ n9 ih15 =>
                                                                intro f y3_15 hn9 hk_f ls hl
                                                                refine lv_iload hx hb dX9_nodes_15 (lv_at hl 0 rfl) ?_
                                                                refine lv_sipush (v := 256) hx hb dX9_nodes_17 (by decide +kernel) ?_
                                                                refine lv_icmp_ge (tgt := 88) hx hb dX9_nodes_20 (by decide) (fun c20 => ?_) (fun c20 => ?_)
                                                                ·
                                                                  have d20 : ((f : Nat) : Int) ≥ (256 : Int) := my_ge c20 (nI_toInt (by omega)) (by decide +kernel)
                                                                  refine lv_iload hx hb dX9_nodes_88 (lv_at hl 1 rfl) ?_
                                                                  refine lv_iconst (v := 2) hx hb dX9_nodes_90 (by decide +kernel) ?_
                                                                  refine lv_idiv hx hb dX9_nodes_91 (by decide +kernel) ?_
                                                                  refine my_eqi (y := 1) (by decide +kernel) ?_
                                                                  refine lv_istore (lv' := [(4, .int 1), (5, .int (nI f)), (3, .int y3_15), (0, .ref m0), (1, .int m9), (2, .int 1)]) hx hb dX9_nodes_92 hl (by decide) rfl (fun ls hl => ?_)
                                                                  refine lv_goto (tgt := 7) hx hb dX9_nodes_94 (by decide) ?_
                                                                  refine lv_iload hx hb dX9_nodes_7 (lv_at hl 0 rfl) ?_
                                                                  refine lv_if_le (tgt := 97) hx hb dX9_nodes_9 (by decide) (fun c9 => ?_) (fun c9 => ?_)
                                                                  ·
                                                                    exact absurd c9 (by decide +kernel)
                                                                  ·
                                                                    refine lv_iconst (v := 0) hx hb dX9_nodes_12 (by decide +kernel) ?_
                                                                    refine lv_istore (lv' := [(5, .int 0), (4, .int 1), (3, .int y3_15), (0, .ref m0), (1, .int m9), (2, .int 1)]) hx hb dX9_nodes_13 hl (by decide) rfl (fun ls hl => ?_)
                                                                    have loop15 : ∀ (n9 : Nat) (f : Nat) (y3_15 : Int32), 512 - f < n9 → (f ≤ 511) → ∀ (ls : Array Slot), lv_has ls 7 [(5, .int (nI f)), (4, .int 1), (3, .int y3_15), (0, .ref m0), (1, .int m9), (2, .int 1)] → W p l e ({ frames := 2, cells := 0, slots := 0, locals := 120 } : Room) s m [.ref m0, .int m9, .int 1].toArray below meth c s.heap [] 0 0 (MQ below (vp_Si (fun (r : Int32) => True)) [.ref m0, .int m9, .int 1].toArray s 0 0 (fun _ => False)) (F0 m 15 ls []) := by
                                                                      intro n9
                                                                      induction n9 with
                                                                      | zero =>
                                                                        intro f y3_15 hn9
                                                                        exact absurd hn9 (Nat.not_lt_zero _)
                                                                      | succ n9 ih15 =>
                                                                        intro f y3_15 hn9 hk_f ls hl
                                                                        refine lv_iload hx hb dX9_nodes_15 (lv_at hl 0 rfl) ?_
                                                                        refine lv_sipush (v := 256) hx hb dX9_nodes_17 (by decide +kernel) ?_
                                                                        refine lv_icmp_ge (tgt := 88) hx hb dX9_nodes_20 (by decide) (fun c20 => ?_) (fun c20 => ?_)
                                                                        ·
                                                                          have d20 : ((f : Nat) : Int) ≥ (256 : Int) := my_ge c20 (nI_toInt (by omega)) (by decide +kernel)
                                                                          refine lv_iload hx hb dX9_nodes_88 (lv_at hl 1 rfl) ?_
                                                                          refine lv_iconst (v := 2) hx hb dX9_nodes_90 (by decide +kernel) ?_
                                                                          refine lv_idiv hx hb dX9_nodes_91 (by decide +kernel) ?_
                                                                          refine my_eqi (y := 0) (by decide +kernel) ?_
                                                                          refine lv_istore (lv' := [(4, .int 0), (5, .int (nI f)), (3, .int y3_15), (0, .ref m0), (1, .int m9), (2, .int 1)]) hx hb dX9_nodes_92 hl (by decide) rfl (fun ls hl => ?_)
                                                                          refine lv_goto (tgt := 7) hx hb dX9_nodes_94 (by decide) ?_
                                                                          refine lv_iload hx hb dX9_nodes_7 (lv_at hl 0 rfl) ?_
                                                                          refine lv_if_le (tgt := 97) hx hb dX9_nodes_9 (by decide) (fun c9 => ?_) (fun c9 => ?_)
                                                                          ·
                                                                            refine lv_iload_n hx hb dX9_nodes_97 rfl (lv_at hl 2 rfl) ?_
                                                                            exact my_rpI hx hb hr hlocks (trivial) dX9_nodes_98
                                                                          ·
                                                                            exact absurd c9 (by decide +kernel)
                                                                        ·
                                                                          have d20 : ((f : Nat) : Int) < (256 : Int) := my_nge c20 (nI_toInt (by omega)) (by decide +kernel)
                                                                          refine lv_aload_n hx hb dX9_nodes_23 rfl (lv_at hl 3 rfl) ?_
                                                                          refine lv_iconst (v := 0) hx hb dX9_nodes_24 (by decide +kernel) ?_
                                                                          refine lv_iload hx hb dX9_nodes_25 (lv_at hl 0 rfl) ?_
                                                                          refine lv_iload hx hb dX9_nodes_27 (lv_at hl 0 rfl) ?_
                                                                          refine lv_iload hx hb dX9_nodes_29 (lv_at hl 1 rfl) ?_
                                                                          refine lv_iadd hx hb dX9_nodes_31 ?_
                                                                          refine my_eqi (y := nI (f + 1)) (my_addN f 1) ?_
                                                                          refine lv_iconst (v := 1) hx hb dX9_nodes_32 (by decide +kernel) ?_
                                                                          refine lv_isub hx hb dX9_nodes_33 ?_
                                                                          refine lv_topi (fun z_1 ez_1 => ?_)
                                                                          try have tz_1 : z_1.toInt = ((f + 1 : Nat) : Int) - (1 : Int) := by rw [ez_1]; exact my_subI (nI_toInt (by omega)) (by decide +kernel) (by omega) (by omega)
                                                                          refine my_gpI (my_pV (As := [.int 0, .int (nI f), .int z_1]) (rest := []) (ci := 9) ⟨hx, hb, hml, hown, hts⟩ (cwV 3 hts gX9_nodes_X9_within rfl rfl rfl (by decide +kernel) ⟨Nat.le_of_ble_eq_true rfl, Nat.le_of_ble_eq_true rfl⟩) hN hK hP [0, 1] rfl 0 rfl rfl rfl rfl hl.1 rfl (Nat.le_of_ble_eq_true rfl) dX9_nodes_34 ⟨Nat.le_of_ble_eq_true rfl, Nat.le_of_ble_eq_true rfl⟩  (k0_X9_within l D cI cJ cK m0 a_row a_tape a_number a_read a_readBits a_stands a_parted a_bitsWere a_stood a_chosen a_bestChosen a_often a_sorted a_risen a_risenWays m_thrown m_told m_taped m_at m_to m_many m_readMany m_fewest m_size mf (nI f) ((f : Nat) : Int) (nI_toInt (by omega)) z_1 z_1.toInt rfl (by first | assumption | omega | decide +kernel) (by first | assumption | omega | decide +kernel) (by first | assumption | omega | decide +kernel) (by first | assumption | omega | decide +kernel) (by first | assumption | omega | decide +kernel) (by first | assumption | omega | decide +kernel) (by first | assumption | omega | decide +kernel) (by first | assumption | omega | decide +kernel))) (fun r hp => ?_)
                                                                          obtain _ := hp
                                                                          obtain ⟨r_2, rfl⟩ : ∃ z, z = r := ⟨_, rfl⟩
                                                                          refine lv_istore (lv' := [(6, .int r_2), (5, .int (nI f)), (4, .int 1), (3, .int y3_15), (0, .ref m0), (1, .int m9), (2, .int 1)]) hx hb dX9_nodes_37 hl (by decide) rfl (fun ls hl => ?_)
                                                                          refine lv_iload_n hx hb dX9_nodes_39 rfl (lv_at hl 3 rfl) ?_
                                                                          refine lv_iload hx hb dX9_nodes_40 (lv_at hl 0 rfl) ?_
                                                                          refine lv_iload_n hx hb dX9_nodes_42 rfl (lv_at hl 5 rfl) ?_
                                                                          refine lv_icmp_lt (tgt := 72) hx hb dX9_nodes_43 (by decide) (fun c43 => ?_) (fun c43 => ?_)
                                                                          ·
                                                                            have d43 : r_2.toInt < m9.toInt := my_lt c43 rfl rfl
                                                                            refine lv_iconst (v := 0) hx hb dX9_nodes_72 (by decide +kernel) ?_
                                                                            refine my_gpI (my_pS (As := [.int 0]) (rest := [.int y3_15]) ⟨hx, hb, hml, hown, hts⟩ (va_cwS 1 hts gX9_nodes_X9_flag rfl rfl rfl (by decide +kernel) ⟨Nat.le_of_ble_eq_true rfl, Nat.le_of_ble_eq_true rfl⟩) hN hK hP [] rfl rfl hl.1 rfl (Nat.le_of_ble_eq_true rfl) dX9_nodes_73 ⟨Nat.le_of_ble_eq_true rfl, Nat.le_of_ble_eq_true rfl⟩  (k0_X9_flag l D cI cJ cK )) (fun r hp => ?_)
                                                                            obtain rfl := hp
                                                                            refine lv_iadd hx hb dX9_nodes_76 ?_
                                                                            refine lv_topi (fun z_3 ez_3 => ?_)
                                                                            try have tz_3 : z_3.toInt = y3_15.toInt + (0 : Int) := by rw [ez_3]; exact my_addI rfl (by decide +kernel) (by omega) (by omega)
                                                                            refine lv_istore_n (lv' := [(3, .int z_3), (6, .int r_2), (5, .int (nI f)), (4, .int 1), (0, .ref m0), (1, .int m9), (2, .int 1)]) hx hb dX9_nodes_77 rfl hl (by decide) rfl (fun ls hl => ?_)
                                                                            refine lv_iload hx hb dX9_nodes_78 (lv_at hl 2 rfl) ?_
                                                                            refine lv_iload hx hb dX9_nodes_80 (lv_at hl 3 rfl) ?_
                                                                            refine lv_iadd hx hb dX9_nodes_82 ?_
                                                                            refine my_eqi (y := nI (f + 1)) (my_addN f 1) ?_
                                                                            refine lv_istore (lv' := [(5, .int (nI (f + 1))), (3, .int z_3), (6, .int r_2), (4, .int 1), (0, .ref m0), (1, .int m9), (2, .int 1)]) hx hb dX9_nodes_83 hl (by decide) rfl (fun ls hl => ?_)
                                                                            refine lv_goto (tgt := 15) hx hb dX9_nodes_85 (by decide) ?_
                                                                            exact ih15  (f + 1) z_3 (by omega) (by first | assumption | omega | decide +kernel) ls (lv_sub hl [0, 3, 1, 4, 5, 6] rfl)
                                                                          ·
                                                                            have d43 : r_2.toInt ≥ m9.toInt := my_nlt c43 rfl rfl
                                                                            refine lv_iload_n hx hb dX9_nodes_46 rfl (lv_at hl 6 rfl) ?_
                                                                            refine lv_if_eq (tgt := 68) hx hb dX9_nodes_47 (by decide) (fun c47 => ?_) (fun c47 => ?_)
                                                                            ·
                                                                              exact absurd c47 (by decide +kernel)
                                                                            ·
                                                                              refine lv_aload_n hx hb dX9_nodes_50 rfl (lv_at hl 4 rfl) ?_
                                                                              refine lv_iconst (v := 1) hx hb dX9_nodes_51 (by decide +kernel) ?_
                                                                              refine lv_iload hx hb dX9_nodes_52 (lv_at hl 1 rfl) ?_
                                                                              refine lv_iload hx hb dX9_nodes_54 (lv_at hl 1 rfl) ?_
                                                                              refine lv_iload hx hb dX9_nodes_56 (lv_at hl 2 rfl) ?_
                                                                              refine lv_iadd hx hb dX9_nodes_58 ?_
                                                                              refine my_eqi (y := nI (f + 1)) (my_addN f 1) ?_
                                                                              refine lv_iconst (v := 1) hx hb dX9_nodes_59 (by decide +kernel) ?_
                                                                              refine lv_isub hx hb dX9_nodes_60 ?_
                                                                              refine lv_topi (fun z_4 ez_4 => ?_)
                                                                              try have tz_4 : z_4.toInt = ((f + 1 : Nat) : Int) - (1 : Int) := by rw [ez_4]; exact my_subI (nI_toInt (by omega)) (by decide +kernel) (by omega) (by omega)
                                                                              refine my_gpI (my_pV (As := [.int 1, .int (nI f), .int z_4]) (rest := [.int y3_15]) (ci := 9) ⟨hx, hb, hml, hown, hts⟩ (cwV 3 hts gX9_nodes_X9_within rfl rfl rfl (by decide +kernel) ⟨Nat.le_of_ble_eq_true rfl, Nat.le_of_ble_eq_true rfl⟩) hN hK hP [0, 1] rfl 0 rfl rfl rfl rfl hl.1 rfl (Nat.le_of_ble_eq_true rfl) dX9_nodes_61 ⟨Nat.le_of_ble_eq_true rfl, Nat.le_of_ble_eq_true rfl⟩  (k1_X9_within l D cI cJ cK m0 a_row a_tape a_number a_read a_readBits a_stands a_parted a_bitsWere a_stood a_chosen a_bestChosen a_often a_sorted a_risen a_risenWays m_thrown m_told m_taped m_at m_to m_many m_readMany m_fewest m_size mf (nI f) ((f : Nat) : Int) (nI_toInt (by omega)) z_4 z_4.toInt rfl (by first | assumption | omega | decide +kernel) (by first | assumption | omega | decide +kernel) (by first | assumption | omega | decide +kernel) (by first | assumption | omega | decide +kernel) (by first | assumption | omega | decide +kernel) (by first | assumption | omega | decide +kernel) (by first | assumption | omega | decide +kernel) (by first | assumption | omega | decide +kernel))) (fun r hp => ?_)
                                                                              obtain _ := hp
                                                                              obtain ⟨r_5, rfl⟩ : ∃ z, z = r := ⟨_, rfl⟩
                                                                              refine lv_iload_n hx hb dX9_nodes_64 rfl (lv_at hl 5 rfl) ?_
                                                                              refine lv_icmp_lt (tgt := 72) hx hb dX9_nodes_65 (by decide) (fun c65 => ?_) (fun c65 => ?_)
                                                                              ·
                                                                                have d65 : r_5.toInt < m9.toInt := my_lt c65 rfl rfl
                                                                                refine lv_iconst (v := 0) hx hb dX9_nodes_72 (by decide +kernel) ?_
                                                                                refine my_gpI (my_pS (As := [.int 0]) (rest := [.int y3_15]) ⟨hx, hb, hml, hown, hts⟩ (va_cwS 1 hts gX9_nodes_X9_flag rfl rfl rfl (by decide +kernel) ⟨Nat.le_of_ble_eq_true rfl, Nat.le_of_ble_eq_true rfl⟩) hN hK hP [] rfl rfl hl.1 rfl (Nat.le_of_ble_eq_true rfl) dX9_nodes_73 ⟨Nat.le_of_ble_eq_true rfl, Nat.le_of_ble_eq_true rfl⟩  (k0_X9_flag l D cI cJ cK )) (fun r hp => ?_)
                                                                                obtain rfl := hp
                                                                                refine lv_iadd hx hb dX9_nodes_76 ?_
                                                                                refine lv_topi (fun z_6 ez_6 => ?_)
                                                                                try have tz_6 : z_6.toInt = y3_15.toInt + (0 : Int) := by rw [ez_6]; exact my_addI rfl (by decide +kernel) (by omega) (by omega)
                                                                                refine lv_istore_n (lv' := [(3, .int z_6), (6, .int r_2), (5, .int (nI f)), (4, .int 1), (0, .ref m0), (1, .int m9), (2, .int 1)]) hx hb dX9_nodes_77 rfl hl (by decide) rfl (fun ls hl => ?_)
                                                                                refine lv_iload hx hb dX9_nodes_78 (lv_at hl 2 rfl) ?_
                                                                                refine lv_iload hx hb dX9_nodes_80 (lv_at hl 3 rfl) ?_
                                                                                refine lv_iadd hx hb dX9_nodes_82 ?_
                                                                                refine my_eqi (y := nI (f + 1)) (my_addN f 1) ?_
                                                                                refine lv_istore (lv' := [(5, .int (nI (f + 1))), (3, .int z_6), (6, .int r_2), (4, .int 1), (0, .ref m0), (1, .int m9), (2, .int 1)]) hx hb dX9_nodes_83 hl (by decide) rfl (fun ls hl => ?_)
                                                                                refine lv_goto (tgt := 15) hx hb dX9_nodes_85 (by decide) ?_
                                                                                exact ih15  (f + 1) z_6 (by omega) (by first | assumption | omega | decide +kernel) ls (lv_sub hl [0, 3, 1, 4, 5, 6] rfl)
                                                                              ·
                                                                                have d65 : r_5.toInt ≥ m9.toInt := my_nlt c65 rfl rfl
                                                                                refine lv_iconst (v := 1) hx hb dX9_nodes_68 (by decide +kernel) ?_
                                                                                refine lv_goto (tgt := 73) hx hb dX9_nodes_69 (by decide) ?_
                                                                                refine my_gpI (my_pS (As := [.int 1]) (rest := [.int y3_15]) ⟨hx, hb, hml, hown, hts⟩ (va_cwS 1 hts gX9_nodes_X9_flag rfl rfl rfl (by decide +kernel) ⟨Nat.le_of_ble_eq_true rfl, Nat.le_of_ble_eq_true rfl⟩) hN hK hP [] rfl rfl hl.1 rfl (Nat.le_of_ble_eq_true rfl) dX9_nodes_73 ⟨Nat.le_of_ble_eq_true rfl, Nat.le_of_ble_eq_true rfl⟩  (k1_X9_flag l D cI cJ cK )) (fun r hp => ?_)
                                                                                obtain rfl := hp
                                                                                refine lv_iadd hx hb dX9_nodes_76 ?_
                                                                                refine lv_topi (fun z_7 ez_7 => ?_)
                                                                                try have tz_7 : z_7.toInt = y3_15.toInt + (1 : Int) := by rw [ez_7]; exact my_addI rfl (by decide +kernel) (by omega) (by omega)
                                                                                refine lv_istore_n (lv' := [(3, .int z_7), (6, .int r_2), (5, .int (nI f)), (4, .int 1), (0, .ref m0), (1, .int m9), (2, .int 1)]) hx hb dX9_nodes_77 rfl hl (by decide) rfl (fun ls hl => ?_)
                                                                                refine lv_iload hx hb dX9_nodes_78 (lv_at hl 2 rfl) ?_
                                                                                refine lv_iload hx hb dX9_nodes_80 (lv_at hl 3 rfl) ?_
                                                                                refine lv_iadd hx hb dX9_nodes_82 ?_
                                                                                refine my_eqi (y := nI (f + 1)) (my_addN f 1) ?_
                                                                                refine lv_istore (lv' := [(5, .int (nI (f + 1))), (3, .int z_7), (6, .int r_2), (4, .int 1), (0, .ref m0), (1, .int m9), (2, .int 1)]) hx hb dX9_nodes_83 hl (by decide) rfl (fun ls hl => ?_)
                                                                                refine lv_goto (tgt := 15) hx hb dX9_nodes_85 (by decide) ?_
                                                                                exact ih15  (f + 1) z_7 (by omega) (by first | assumption | omega | decide +kernel) ls (lv_sub hl [0, 3, 1, 4, 5, 6] rfl)
                                                                    exact loop15 ((512 - 0) + 1) 0 y3_15 (Nat.lt_succ_self _) (by first | assumption | omega | decide +kernel) ls (lv_sub hl [0, 1, 2, 3, 4, 5] rfl)
                                                                ·
                                                                  have d20 : ((f : Nat) : Int) < (256 : Int) := my_nge c20 (nI_toInt (by omega)) (by decide +kernel)
                                                                  refine lv_aload_n hx hb dX9_nodes_23 rfl (lv_at hl 3 rfl) ?_
                                                                  refine lv_iconst (v := 0) hx hb dX9_nodes_24 (by decide +kernel) ?_
                                                                  refine lv_iload hx hb dX9_nodes_25 (lv_at hl 0 rfl) ?_
                                                                  refine lv_iload hx hb dX9_nodes_27 (lv_at hl 0 rfl) ?_
                                                                  refine lv_iload hx hb dX9_nodes_29 (lv_at hl 1 rfl) ?_
                                                                  refine lv_iadd hx hb dX9_nodes_31 ?_
                                                                  refine my_eqi (y := nI (f + 2)) (my_addN f 2) ?_
                                                                  refine lv_iconst (v := 1) hx hb dX9_nodes_32 (by decide +kernel) ?_
                                                                  refine lv_isub hx hb dX9_nodes_33 ?_
                                                                  refine lv_topi (fun z_8 ez_8 => ?_)
                                                                  try have tz_8 : z_8.toInt = ((f + 2 : Nat) : Int) - (1 : Int) := by rw [ez_8]; exact my_subI (nI_toInt (by omega)) (by decide +kernel) (by omega) (by omega)
                                                                  refine my_gpI (my_pV (As := [.int 0, .int (nI f), .int z_8]) (rest := []) (ci := 9) ⟨hx, hb, hml, hown, hts⟩ (cwV 3 hts gX9_nodes_X9_within rfl rfl rfl (by decide +kernel) ⟨Nat.le_of_ble_eq_true rfl, Nat.le_of_ble_eq_true rfl⟩) hN hK hP [0, 1] rfl 0 rfl rfl rfl rfl hl.1 rfl (Nat.le_of_ble_eq_true rfl) dX9_nodes_34 ⟨Nat.le_of_ble_eq_true rfl, Nat.le_of_ble_eq_true rfl⟩  (k0_X9_within l D cI cJ cK m0 a_row a_tape a_number a_read a_readBits a_stands a_parted a_bitsWere a_stood a_chosen a_bestChosen a_often a_sorted a_risen a_risenWays m_thrown m_told m_taped m_at m_to m_many m_readMany m_fewest m_size mf (nI f) ((f : Nat) : Int) (nI_toInt (by omega)) z_8 z_8.toInt rfl (by first | assumption | omega | decide +kernel) (by first | assumption | omega | decide +kernel) (by first | assumption | omega | decide +kernel) (by first | assumption | omega | decide +kernel) (by first | assumption | omega | decide +kernel) (by first | assumption | omega | decide +kernel) (by first | assumption | omega | decide +kernel) (by first | assumption | omega | decide +kernel))) (fun r hp => ?_)
                                                                  obtain _ := hp
                                                                  obtain ⟨r_9, rfl⟩ : ∃ z, z = r := ⟨_, rfl⟩
                                                                  refine lv_istore (lv' := [(6, .int r_9), (5, .int (nI f)), (4, .int 2), (3, .int y3_15), (0, .ref m0), (1, .int m9), (2, .int 1)]) hx hb dX9_nodes_37 hl (by decide) rfl (fun ls hl => ?_)
                                                                  refine lv_iload_n hx hb dX9_nodes_39 rfl (lv_at hl 3 rfl) ?_
                                                                  refine lv_iload hx hb dX9_nodes_40 (lv_at hl 0 rfl) ?_
                                                                  refine lv_iload_n hx hb dX9_nodes_42 rfl (lv_at hl 5 rfl) ?_
                                                                  refine lv_icmp_lt (tgt := 72) hx hb dX9_nodes_43 (by decide) (fun c43 => ?_) (fun c43 => ?_)
                                                                  ·
                                                                    have d43 : r_9.toInt < m9.toInt := my_lt c43 rfl rfl
                                                                    refine lv_iconst (v := 0) hx hb dX9_nodes_72 (by decide +kernel) ?_
                                                                    refine my_gpI (my_pS (As := [.int 0]) (rest := [.int y3_15]) ⟨hx, hb, hml, hown, hts⟩ (va_cwS 1 hts gX9_nodes_X9_flag rfl rfl rfl (by decide +kernel) ⟨Nat.le_of_ble_eq_true rfl, Nat.le_of_ble_eq_true rfl⟩) hN hK hP [] rfl rfl hl.1 rfl (Nat.le_of_ble_eq_true rfl) dX9_nodes_73 ⟨Nat.le_of_ble_eq_true rfl, Nat.le_of_ble_eq_true rfl⟩  (k0_X9_flag l D cI cJ cK )) (fun r hp => ?_)
                                                                    obtain rfl := hp
                                                                    refine lv_iadd hx hb dX9_nodes_76 ?_
                                                                    refine lv_topi (fun z_10 ez_10 => ?_)
                                                                    try have tz_10 : z_10.toInt = y3_15.toInt + (0 : Int) := by rw [ez_10]; exact my_addI rfl (by decide +kernel) (by omega) (by omega)
                                                                    refine lv_istore_n (lv' := [(3, .int z_10), (6, .int r_9), (5, .int (nI f)), (4, .int 2), (0, .ref m0), (1, .int m9), (2, .int 1)]) hx hb dX9_nodes_77 rfl hl (by decide) rfl (fun ls hl => ?_)
                                                                    refine lv_iload hx hb dX9_nodes_78 (lv_at hl 2 rfl) ?_
                                                                    refine lv_iload hx hb dX9_nodes_80 (lv_at hl 3 rfl) ?_
                                                                    refine lv_iadd hx hb dX9_nodes_82 ?_
                                                                    refine my_eqi (y := nI (f + 2)) (my_addN f 2) ?_
                                                                    refine lv_istore (lv' := [(5, .int (nI (f + 2))), (3, .int z_10), (6, .int r_9), (4, .int 2), (0, .ref m0), (1, .int m9), (2, .int 1)]) hx hb dX9_nodes_83 hl (by decide) rfl (fun ls hl => ?_)
                                                                    refine lv_goto (tgt := 15) hx hb dX9_nodes_85 (by decide) ?_
                                                                    exact ih15  (f + 2) z_10 (by omega) (by first | assumption | omega | decide +kernel) ls (lv_sub hl [0, 3, 1, 4, 5, 6] rfl)
                                                                  ·
                                                                    have d43 : r_9.toInt ≥ m9.toInt := my_nlt c43 rfl rfl
                                                                    refine lv_iload_n hx hb dX9_nodes_46 rfl (lv_at hl 6 rfl) ?_
                                                                    refine lv_if_eq (tgt := 68) hx hb dX9_nodes_47 (by decide) (fun c47 => ?_) (fun c47 => ?_)
                                                                    ·
                                                                      exact absurd c47 (by decide +kernel)
                                                                    ·
                                                                      refine lv_aload_n hx hb dX9_nodes_50 rfl (lv_at hl 4 rfl) ?_
                                                                      refine lv_iconst (v := 1) hx hb dX9_nodes_51 (by decide +kernel) ?_
                                                                      refine lv_iload hx hb dX9_nodes_52 (lv_at hl 1 rfl) ?_
                                                                      refine lv_iload hx hb dX9_nodes_54 (lv_at hl 1 rfl) ?_
                                                                      refine lv_iload hx hb dX9_nodes_56 (lv_at hl 2 rfl) ?_
                                                                      refine lv_iadd hx hb dX9_nodes_58 ?_
                                                                      refine my_eqi (y := nI (f + 2)) (my_addN f 2) ?_
                                                                      refine lv_iconst (v := 1) hx hb dX9_nodes_59 (by decide +kernel) ?_
                                                                      refine lv_isub hx hb dX9_nodes_60 ?_
                                                                      refine lv_topi (fun z_11 ez_11 => ?_)
                                                                      try have tz_11 : z_11.toInt = ((f + 2 : Nat) : Int) - (1 : Int) := by rw [ez_11]; exact my_subI (nI_toInt (by omega)) (by decide +kernel) (by omega) (by omega)
                                                                      refine my_gpI (my_pV (As := [.int 1, .int (nI f), .int z_11]) (rest := [.int y3_15]) (ci := 9) ⟨hx, hb, hml, hown, hts⟩ (cwV 3 hts gX9_nodes_X9_within rfl rfl rfl (by decide +kernel) ⟨Nat.le_of_ble_eq_true rfl, Nat.le_of_ble_eq_true rfl⟩) hN hK hP [0, 1] rfl 0 rfl rfl rfl rfl hl.1 rfl (Nat.le_of_ble_eq_true rfl) dX9_nodes_61 ⟨Nat.le_of_ble_eq_true rfl, Nat.le_of_ble_eq_true rfl⟩  (k1_X9_within l D cI cJ cK m0 a_row a_tape a_number a_read a_readBits a_stands a_parted a_bitsWere a_stood a_chosen a_bestChosen a_often a_sorted a_risen a_risenWays m_thrown m_told m_taped m_at m_to m_many m_readMany m_fewest m_size mf (nI f) ((f : Nat) : Int) (nI_toInt (by omega)) z_11 z_11.toInt rfl (by first | assumption | omega | decide +kernel) (by first | assumption | omega | decide +kernel) (by first | assumption | omega | decide +kernel) (by first | assumption | omega | decide +kernel) (by first | assumption | omega | decide +kernel) (by first | assumption | omega | decide +kernel) (by first | assumption | omega | decide +kernel) (by first | assumption | omega | decide +kernel))) (fun r hp => ?_)
                                                                      obtain _ := hp
                                                                      obtain ⟨r_12, rfl⟩ : ∃ z, z = r := ⟨_, rfl⟩
                                                                      refine lv_iload_n hx hb dX9_nodes_64 rfl (lv_at hl 5 rfl) ?_
                                                                      refine lv_icmp_lt (tgt := 72) hx hb dX9_nodes_65 (by decide) (fun c65 => ?_) (fun c65 => ?_)
                                                                      ·
                                                                        have d65 : r_12.toInt < m9.toInt := my_lt c65 rfl rfl
                                                                        refine lv_iconst (v := 0) hx hb dX9_nodes_72 (by decide +kernel) ?_
                                                                        refine my_gpI (my_pS (As := [.int 0]) (rest := [.int y3_15]) ⟨hx, hb, hml, hown, hts⟩ (va_cwS 1 hts gX9_nodes_X9_flag rfl rfl rfl (by decide +kernel) ⟨Nat.le_of_ble_eq_true rfl, Nat.le_of_ble_eq_true rfl⟩) hN hK hP [] rfl rfl hl.1 rfl (Nat.le_of_ble_eq_true rfl) dX9_nodes_73 ⟨Nat.le_of_ble_eq_true rfl, Nat.le_of_ble_eq_true rfl⟩  (k0_X9_flag l D cI cJ cK )) (fun r hp => ?_)
                                                                        obtain rfl := hp
                                                                        refine lv_iadd hx hb dX9_nodes_76 ?_
                                                                        refine lv_topi (fun z_13 ez_13 => ?_)
                                                                        try have tz_13 : z_13.toInt = y3_15.toInt + (0 : Int) := by rw [ez_13]; exact my_addI rfl (by decide +kernel) (by omega) (by omega)
                                                                        refine lv_istore_n (lv' := [(3, .int z_13), (6, .int r_9), (5, .int (nI f)), (4, .int 2), (0, .ref m0), (1, .int m9), (2, .int 1)]) hx hb dX9_nodes_77 rfl hl (by decide) rfl (fun ls hl => ?_)
                                                                        refine lv_iload hx hb dX9_nodes_78 (lv_at hl 2 rfl) ?_
                                                                        refine lv_iload hx hb dX9_nodes_80 (lv_at hl 3 rfl) ?_
                                                                        refine lv_iadd hx hb dX9_nodes_82 ?_
                                                                        refine my_eqi (y := nI (f + 2)) (my_addN f 2) ?_
                                                                        refine lv_istore (lv' := [(5, .int (nI (f + 2))), (3, .int z_13), (6, .int r_9), (4, .int 2), (0, .ref m0), (1, .int m9), (2, .int 1)]) hx hb dX9_nodes_83 hl (by decide) rfl (fun ls hl => ?_)
                                                                        refine lv_goto (tgt := 15) hx hb dX9_nodes_85 (by decide) ?_
                                                                        exact ih15  (f + 2) z_13 (by omega) (by first | assumption | omega | decide +kernel) ls (lv_sub hl [0, 3, 1, 4, 5, 6] rfl)
                                                                      ·
                                                                        have d65 : r_12.toInt ≥ m9.toInt := my_nlt c65 rfl rfl
                                                                        refine lv_iconst (v := 1) hx hb dX9_nodes_68 (by decide +kernel) ?_
                                                                        refine lv_goto (tgt := 73) hx hb dX9_nodes_69 (by decide) ?_
                                                                        refine my_gpI (my_pS (As := [.int 1]) (rest := [.int y3_15]) ⟨hx, hb, hml, hown, hts⟩ (va_cwS 1 hts gX9_nodes_X9_flag rfl rfl rfl (by decide +kernel) ⟨Nat.le_of_ble_eq_true rfl, Nat.le_of_ble_eq_true rfl⟩) hN hK hP [] rfl rfl hl.1 rfl (Nat.le_of_ble_eq_true rfl) dX9_nodes_73 ⟨Nat.le_of_ble_eq_true rfl, Nat.le_of_ble_eq_true rfl⟩  (k1_X9_flag l D cI cJ cK )) (fun r hp => ?_)
                                                                        obtain rfl := hp
                                                                        refine lv_iadd hx hb dX9_nodes_76 ?_
                                                                        refine lv_topi (fun z_14 ez_14 => ?_)
                                                                        try have tz_14 : z_14.toInt = y3_15.toInt + (1 : Int) := by rw [ez_14]; exact my_addI rfl (by decide +kernel) (by omega) (by omega)
                                                                        refine lv_istore_n (lv' := [(3, .int z_14), (6, .int r_9), (5, .int (nI f)), (4, .int 2), (0, .ref m0), (1, .int m9), (2, .int 1)]) hx hb dX9_nodes_77 rfl hl (by decide) rfl (fun ls hl => ?_)
                                                                        refine lv_iload hx hb dX9_nodes_78 (lv_at hl 2 rfl) ?_
                                                                        refine lv_iload hx hb dX9_nodes_80 (lv_at hl 3 rfl) ?_
                                                                        refine lv_iadd hx hb dX9_nodes_82 ?_
                                                                        refine my_eqi (y := nI (f + 2)) (my_addN f 2) ?_
                                                                        refine lv_istore (lv' := [(5, .int (nI (f + 2))), (3, .int z_14), (6, .int r_9), (4, .int 2), (0, .ref m0), (1, .int m9), (2, .int 1)]) hx hb dX9_nodes_83 hl (by decide) rfl (fun ls hl => ?_)
                                                                        refine lv_goto (tgt := 15) hx hb dX9_nodes_85 (by decide) ?_
                                                                        exact ih15  (f + 2) z_14 (by omega) (by first | assumption | omega | decide +kernel) ls (lv_sub hl [0, 3, 1, 4, 5, 6] rfl)
                                                            exact loop15 ((512 - 0) + 1) 0 y3_15 (Nat.lt_succ_self _) (by first | assumption | omega | decide +kernel) ls (lv_sub hl [0, 1, 2, 3, 4, 5] rfl)
                                                        ·
                                                          have d20 : ((f : Nat) : Int) < (256 : Int) := my_nge c20 (nI_toInt (by omega)) (by decide +kernel)
                                                          refine lv_aload_n hx hb dX9_nodes_23 rfl (lv_at hl 3 rfl) ?_
                                                          refine lv_iconst (v := 0) hx hb dX9_nodes_24 (by decide +kernel) ?_
                                                          refine lv_iload hx hb dX9_nodes_25 (lv_at hl 0 rfl) ?_
                                                          refine lv_iload hx hb dX9_nodes_27 (lv_at hl 0 rfl) ?_
                                                          refine lv_iload hx hb dX9_nodes_29 (lv_at hl 1 rfl) ?_
                                                          refine lv_iadd hx hb dX9_nodes_31 ?_
                                                          refine my_eqi (y := nI (f + 4)) (my_addN f 4) ?_
                                                          refine lv_iconst (v := 1) hx hb dX9_nodes_32 (by decide +kernel) ?_
                                                          refine lv_isub hx hb dX9_nodes_33 ?_
                                                          refine lv_topi (fun z_15 ez_15 => ?_)
                                                          try have tz_15 : z_15.toInt = ((f + 4 : Nat) : Int) - (1 : Int) := by rw [ez_15]; exact my_subI (nI_toInt (by omega)) (by decide +kernel) (by omega) (by omega)
                                                          refine my_gpI (my_pV (As := [.int 0, .int (nI f), .int z_15]) (rest := []) (ci := 9) ⟨hx, hb, hml, hown, hts⟩ (cwV 3 hts gX9_nodes_X9_within rfl rfl rfl (by decide +kernel) ⟨Nat.le_of_ble_eq_true rfl, Nat.le_of_ble_eq_true rfl⟩) hN hK hP [0, 1] rfl 0 rfl rfl rfl rfl hl.1 rfl (Nat.le_of_ble_eq_true rfl) dX9_nodes_34 ⟨Nat.le_of_ble_eq_true rfl, Nat.le_of_ble_eq_true rfl⟩  (k0_X9_within l D cI cJ cK m0 a_row a_tape a_number a_read a_readBits a_stands a_parted a_bitsWere a_stood a_chosen a_bestChosen a_often a_sorted a_risen a_risenWays m_thrown m_told m_taped m_at m_to m_many m_readMany m_fewest m_size mf (nI f) ((f : Nat) : Int) (nI_toInt (by omega)) z_15 z_15.toInt rfl (by first | assumption | omega | decide +kernel) (by first | assumption | omega | decide +kernel) (by first | assumption | omega | decide +kernel) (by first | assumption | omega | decide +kernel) (by first | assumption | omega | decide +kernel) (by first | assumption | omega | decide +kernel) (by first | assumption | omega | decide +kernel) (by first | assumption | omega | decide +kernel))) (fun r hp => ?_)
                                                          obtain _ := hp
                                                          obtain ⟨r_16, rfl⟩ : ∃ z, z = r := ⟨_, rfl⟩
                                                          refine lv_istore (lv' := [(6, .int r_16), (5, .int (nI f)), (4, .int 4), (3, .int y3_15), (0, .ref m0), (1, .int m9), (2, .int 1)]) hx hb dX9_nodes_37 hl (by decide) rfl (fun ls hl => ?_)
                                                          refine lv_iload_n hx hb dX9_nodes_39 rfl (lv_at hl 3 rfl) ?_
                                                          refine lv_iload hx hb dX9_nodes_40 (lv_at hl 0 rfl) ?_
                                                          refine lv_iload_n hx hb dX9_nodes_42 rfl (lv_at hl 5 rfl) ?_
                                                          refine lv_icmp_lt (tgt := 72) hx hb dX9_nodes_43 (by decide) (fun c43 => ?_) (fun c43 => ?_)
                                                          ·
                                                            have d43 : r_16.toInt < m9.toInt := my_lt c43 rfl rfl
                                                            refine lv_iconst (v := 0) hx hb dX9_nodes_72 (by decide +kernel) ?_
                                                            refine my_gpI (my_pS (As := [.int 0]) (rest := [.int y3_15]) ⟨hx, hb, hml, hown, hts⟩ (va_cwS 1 hts gX9_nodes_X9_flag rfl rfl rfl (by decide +kernel) ⟨Nat.le_of_ble_eq_true rfl, Nat.le_of_ble_eq_true rfl⟩) hN hK hP [] rfl rfl hl.1 rfl (Nat.le_of_ble_eq_true rfl) dX9_nodes_73 ⟨Nat.le_of_ble_eq_true rfl, Nat.le_of_ble_eq_true rfl⟩  (k0_X9_flag l D cI cJ cK )) (fun r hp => ?_)
                                                            obtain rfl := hp
                                                            refine lv_iadd hx hb dX9_nodes_76 ?_
                                                            refine lv_topi (fun z_17 ez_17 => ?_)
                                                            try have tz_17 : z_17.toInt = y3_15.toInt + (0 : Int) := by rw [ez_17]; exact my_addI rfl (by decide +kernel) (by omega) (by omega)
                                                            refine lv_istore_n (lv' := [(3, .int z_17), (6, .int r_16), (5, .int (nI f)), (4, .int 4), (0, .ref m0), (1, .int m9), (2, .int 1)]) hx hb dX9_nodes_77 rfl hl (by decide) rfl (fun ls hl => ?_)
                                                            refine lv_iload hx hb dX9_nodes_78 (lv_at hl 2 rfl) ?_
                                                            refine lv_iload hx hb dX9_nodes_80 (lv_at hl 3 rfl) ?_
                                                            refine lv_iadd hx hb dX9_nodes_82 ?_
                                                            refine my_eqi (y := nI (f + 4)) (my_addN f 4) ?_
                                                            refine lv_istore (lv' := [(5, .int (nI (f + 4))), (3, .int z_17), (6, .int r_16), (4, .int 4), (0, .ref m0), (1, .int m9), (2, .int 1)]) hx hb dX9_nodes_83 hl (by decide) rfl (fun ls hl => ?_)
                                                            refine lv_goto (tgt := 15) hx hb dX9_nodes_85 (by decide) ?_
                                                            exact ih15  (f + 4) z_17 (by omega) (by first | assumption | omega | decide +kernel) ls (lv_sub hl [0, 3, 1, 4, 5, 6] rfl)
                                                          ·
                                                            have d43 : r_16.toInt ≥ m9.toInt := my_nlt c43 rfl rfl
                                                            refine lv_iload_n hx hb dX9_nodes_46 rfl (lv_at hl 6 rfl) ?_
                                                            refine lv_if_eq (tgt := 68) hx hb dX9_nodes_47 (by decide) (fun c47 => ?_) (fun c47 => ?_)
                                                            ·
                                                              exact absurd c47 (by decide +kernel)
                                                            ·
                                                              refine lv_aload_n hx hb dX9_nodes_50 rfl (lv_at hl 4 rfl) ?_
                                                              refine lv_iconst (v := 1) hx hb dX9_nodes_51 (by decide +kernel) ?_
                                                              refine lv_iload hx hb dX9_nodes_52 (lv_at hl 1 rfl) ?_
                                                              refine lv_iload hx hb dX9_nodes_54 (lv_at hl 1 rfl) ?_
                                                              refine lv_iload hx hb dX9_nodes_56 (lv_at hl 2 rfl) ?_
                                                              refine lv_iadd hx hb dX9_nodes_58 ?_
                                                              refine my_eqi (y := nI (f + 4)) (my_addN f 4) ?_
                                                              refine lv_iconst (v := 1) hx hb dX9_nodes_59 (by decide +kernel) ?_
                                                              refine lv_isub hx hb dX9_nodes_60 ?_
                                                              refine lv_topi (fun z_18 ez_18 => ?_)
                                                              try have tz_18 : z_18.toInt = ((f + 4 : Nat) : Int) - (1 : Int) := by rw [ez_18]; exact my_subI (nI_toInt (by omega)) (by decide +kernel) (by omega) (by omega)
                                                              refine my_gpI (my_pV (As := [.int 1, .int (nI f), .int z_18]) (rest := [.int y3_15]) (ci := 9) ⟨hx, hb, hml, hown, hts⟩ (cwV 3 hts gX9_nodes_X9_within rfl rfl rfl (by decide +kernel) ⟨Nat.le_of_ble_eq_true rfl, Nat.le_of_ble_eq_true rfl⟩) hN hK hP [0, 1] rfl 0 rfl rfl rfl rfl hl.1 rfl (Nat.le_of_ble_eq_true rfl) dX9_nodes_61 ⟨Nat.le_of_ble_eq_true rfl, Nat.le_of_ble_eq_true rfl⟩  (k1_X9_within l D cI cJ cK m0 a_row a_tape a_number a_read a_readBits a_stands a_parted a_bitsWere a_stood a_chosen a_bestChosen a_often a_sorted a_risen a_risenWays m_thrown m_told m_taped m_at m_to m_many m_readMany m_fewest m_size mf (nI f) ((f : Nat) : Int) (nI_toInt (by omega)) z_18 z_18.toInt rfl (by first | assumption | omega | decide +kernel) (by first | assumption | omega | decide +kernel) (by first | assumption | omega | decide +kernel) (by first | assumption | omega | decide +kernel) (by first | assumption | omega | decide +kernel) (by first | assumption | omega | decide +kernel) (by first | assumption | omega | decide +kernel) (by first | assumption | omega | decide +kernel))) (fun r hp => ?_)
                                                              obtain _ := hp
                                                              obtain ⟨r_19, rfl⟩ : ∃ z, z = r := ⟨_, rfl⟩
                                                              refine lv_iload_n hx hb dX9_nodes_64 rfl (lv_at hl 5 rfl) ?_
                                                              refine lv_icmp_lt (tgt := 72) hx hb dX9_nodes_65 (by decide) (fun c65 => ?_) (fun c65 => ?_)
                                                              ·
                                                                have d65 : r_19.toInt < m9.toInt := my_lt c65 rfl rfl
                                                                refine lv_iconst (v := 0) hx hb dX9_nodes_72 (by decide +kernel) ?_
                                                                refine my_gpI (my_pS (As := [.int 0]) (rest := [.int y3_15]) ⟨hx, hb, hml, hown, hts⟩ (va_cwS 1 hts gX9_nodes_X9_flag rfl rfl rfl (by decide +kernel) ⟨Nat.le_of_ble_eq_true rfl, Nat.le_of_ble_eq_true rfl⟩) hN hK hP [] rfl rfl hl.1 rfl (Nat.le_of_ble_eq_true rfl) dX9_nodes_73 ⟨Nat.le_of_ble_eq_true rfl, Nat.le_of_ble_eq_true rfl⟩  (k0_X9_flag l D cI cJ cK )) (fun r hp => ?_)
                                                                obtain rfl := hp
                                                                refine lv_iadd hx hb dX9_nodes_76 ?_
                                                                refine lv_topi (fun z_20 ez_20 => ?_)
                                                                try have tz_20 : z_20.toInt = y3_15.toInt + (0 : Int) := by rw [ez_20]; exact my_addI rfl (by decide +kernel) (by omega) (by omega)
                                                                refine lv_istore_n (lv' := [(3, .int z_20), (6, .int r_16), (5, .int (nI f)), (4, .int 4), (0, .ref m0), (1, .int m9), (2, .int 1)]) hx hb dX9_nodes_77 rfl hl (by decide) rfl (fun ls hl => ?_)
                                                                refine lv_iload hx hb dX9_nodes_78 (lv_at hl 2 rfl) ?_
                                                                refine lv_iload hx hb dX9_nodes_80 (lv_at hl 3 rfl) ?_
                                                                refine lv_iadd hx hb dX9_nodes_82 ?_
                                                                refine my_eqi (y := nI (f + 4)) (my_addN f 4) ?_
                                                                refine lv_istore (lv' := [(5, .int (nI (f + 4))), (3, .int z_20), (6, .int r_16), (4, .int 4), (0, .ref m0), (1, .int m9), (2, .int 1)]) hx hb dX9_nodes_83 hl (by decide) rfl (fun ls hl => ?_)
                                                                refine lv_goto (tgt := 15) hx hb dX9_nodes_85 (by decide) ?_
                                                                exact ih15  (f + 4) z_20 (by omega) (by first | assumption | omega | decide +kernel) ls (lv_sub hl [0, 3, 1, 4, 5, 6] rfl)
                                                              ·
                                                                have d65 : r_19.toInt ≥ m9.toInt := my_nlt c65 rfl rfl
                                                                refine lv_iconst (v := 1) hx hb dX9_nodes_68 (by decide +kernel) ?_
                                                                refine lv_goto (tgt := 73) hx hb dX9_nodes_69 (by decide) ?_
                                                                refine my_gpI (my_pS (As := [.int 1]) (rest := [.int y3_15]) ⟨hx, hb, hml, hown, hts⟩ (va_cwS 1 hts gX9_nodes_X9_flag rfl rfl rfl (by decide +kernel) ⟨Nat.le_of_ble_eq_true rfl, Nat.le_of_ble_eq_true rfl⟩) hN hK hP [] rfl rfl hl.1 rfl (Nat.le_of_ble_eq_true rfl) dX9_nodes_73 ⟨Nat.le_of_ble_eq_true rfl, Nat.le_of_ble_eq_true rfl⟩  (k1_X9_flag l D cI cJ cK )) (fun r hp => ?_)
                                                                obtain rfl := hp
                                                                refine lv_iadd hx hb dX9_nodes_76 ?_
                                                                refine lv_topi (fun z_21 ez_21 => ?_)
                                                                try have tz_21 : z_21.toInt = y3_15.toInt + (1 : Int) := by rw [ez_21]; exact my_addI rfl (by decide +kernel) (by omega) (by omega)
                                                                refine lv_istore_n (lv' := [(3, .int z_21), (6, .int r_16), (5, .int (nI f)), (4, .int 4), (0, .ref m0), (1, .int m9), (2, .int 1)]) hx hb dX9_nodes_77 rfl hl (by decide) rfl (fun ls hl => ?_)
                                                                refine lv_iload hx hb dX9_nodes_78 (lv_at hl 2 rfl) ?_
                                                                refine lv_iload hx hb dX9_nodes_80 (lv_at hl 3 rfl) ?_
                                                                refine lv_iadd hx hb dX9_nodes_82 ?_
                                                                refine my_eqi (y := nI (f + 4)) (my_addN f 4) ?_
                                                                refine lv_istore (lv' := [(5, .int (nI (f + 4))), (3, .int z_21), (6, .int r_16), (4, .int 4), (0, .ref m0), (1, .int m9), (2, .int 1)]) hx hb dX9_nodes_83 hl (by decide) rfl (fun ls hl => ?_)
                                                                refine lv_goto (tgt := 15) hx hb dX9_nodes_85 (by decide) ?_
                                                                exact ih15  (f + 4) z_21 (by omega) (by first | assumption | omega | decide +kernel) ls (lv_sub hl [0, 3, 1, 4, 5, 6] rfl)
                                                    exact loop15 ((512 - 0) + 1) 0 y3_15 (Nat.lt_succ_self _) (by first | assumption | omega | decide +kernel) ls (lv_sub hl [0, 1, 2, 3, 4, 5] rfl)
                                                ·
                                                  have d20 : ((f : Nat) : Int) < (256 : Int) := my_nge c20 (nI_toInt (by omega)) (by decide +kernel)
                                                  refine lv_aload_n hx hb dX9_nodes_23 rfl (lv_at hl 3 rfl) ?_
                                                  refine lv_iconst (v := 0) hx hb dX9_nodes_24 (by decide +kernel) ?_
                                                  refine lv_iload hx hb dX9_nodes_25 (lv_at hl 0 rfl) ?_
                                                  refine lv_iload hx hb dX9_nodes_27 (lv_at hl 0 rfl) ?_
                                                  refine lv_iload hx hb dX9_nodes_29 (lv_at hl 1 rfl) ?_
                                                  refine lv_iadd hx hb dX9_nodes_31 ?_
                                                  refine my_eqi (y := nI (f + 8)) (my_addN f 8) ?_
                                                  refine lv_iconst (v := 1) hx hb dX9_nodes_32 (by decide +kernel) ?_
                                                  refine lv_isub hx hb dX9_nodes_33 ?_
                                                  refine lv_topi (fun z_22 ez_22 => ?_)
                                                  try have tz_22 : z_22.toInt = ((f + 8 : Nat) : Int) - (1 : Int) := by rw [ez_22]; exact my_subI (nI_toInt (by omega)) (by decide +kernel) (by omega) (by omega)
                                                  refine my_gpI (my_pV (As := [.int 0, .int (nI f), .int z_22]) (rest := []) (ci := 9) ⟨hx, hb, hml, hown, hts⟩ (cwV 3 hts gX9_nodes_X9_within rfl rfl rfl (by decide +kernel) ⟨Nat.le_of_ble_eq_true rfl, Nat.le_of_ble_eq_true rfl⟩) hN hK hP [0, 1] rfl 0 rfl rfl rfl rfl hl.1 rfl (Nat.le_of_ble_eq_true rfl) dX9_nodes_34 ⟨Nat.le_of_ble_eq_true rfl, Nat.le_of_ble_eq_true rfl⟩  (k0_X9_within l D cI cJ cK m0 a_row a_tape a_number a_read a_readBits a_stands a_parted a_bitsWere a_stood a_chosen a_bestChosen a_often a_sorted a_risen a_risenWays m_thrown m_told m_taped m_at m_to m_many m_readMany m_fewest m_size mf (nI f) ((f : Nat) : Int) (nI_toInt (by omega)) z_22 z_22.toInt rfl (by first | assumption | omega | decide +kernel) (by first | assumption | omega | decide +kernel) (by first | assumption | omega | decide +kernel) (by first | assumption | omega | decide +kernel) (by first | assumption | omega | decide +kernel) (by first | assumption | omega | decide +kernel) (by first | assumption | omega | decide +kernel) (by first | assumption | omega | decide +kernel))) (fun r hp => ?_)
                                                  obtain _ := hp
                                                  obtain ⟨r_23, rfl⟩ : ∃ z, z = r := ⟨_, rfl⟩
                                                  refine lv_istore (lv' := [(6, .int r_23), (5, .int (nI f)), (4, .int 8), (3, .int y3_15), (0, .ref m0), (1, .int m9), (2, .int 1)]) hx hb dX9_nodes_37 hl (by decide) rfl (fun ls hl => ?_)
                                                  refine lv_iload_n hx hb dX9_nodes_39 rfl (lv_at hl 3 rfl) ?_
                                                  refine lv_iload hx hb dX9_nodes_40 (lv_at hl 0 rfl) ?_
                                                  refine lv_iload_n hx hb dX9_nodes_42 rfl (lv_at hl 5 rfl) ?_
                                                  refine lv_icmp_lt (tgt := 72) hx hb dX9_nodes_43 (by decide) (fun c43 => ?_) (fun c43 => ?_)
                                                  ·
                                                    have d43 : r_23.toInt < m9.toInt := my_lt c43 rfl rfl
                                                    refine lv_iconst (v := 0) hx hb dX9_nodes_72 (by decide +kernel) ?_
                                                    refine my_gpI (my_pS (As := [.int 0]) (rest := [.int y3_15]) ⟨hx, hb, hml, hown, hts⟩ (va_cwS 1 hts gX9_nodes_X9_flag rfl rfl rfl (by decide +kernel) ⟨Nat.le_of_ble_eq_true rfl, Nat.le_of_ble_eq_true rfl⟩) hN hK hP [] rfl rfl hl.1 rfl (Nat.le_of_ble_eq_true rfl) dX9_nodes_73 ⟨Nat.le_of_ble_eq_true rfl, Nat.le_of_ble_eq_true rfl⟩  (k0_X9_flag l D cI cJ cK )) (fun r hp => ?_)
                                                    obtain rfl := hp
                                                    refine lv_iadd hx hb dX9_nodes_76 ?_
                                                    refine lv_topi (fun z_24 ez_24 => ?_)
                                                    try have tz_24 : z_24.toInt = y3_15.toInt + (0 : Int) := by rw [ez_24]; exact my_addI rfl (by decide +kernel) (by omega) (by omega)
                                                    refine lv_istore_n (lv' := [(3, .int z_24), (6, .int r_23), (5, .int (nI f)), (4, .int 8), (0, .ref m0), (1, .int m9), (2, .int 1)]) hx hb dX9_nodes_77 rfl hl (by decide) rfl (fun ls hl => ?_)
                                                    refine lv_iload hx hb dX9_nodes_78 (lv_at hl 2 rfl) ?_
                                                    refine lv_iload hx hb dX9_nodes_80 (lv_at hl 3 rfl) ?_
                                                    refine lv_iadd hx hb dX9_nodes_82 ?_
                                                    refine my_eqi (y := nI (f + 8)) (my_addN f 8) ?_
                                                    refine lv_istore (lv' := [(5, .int (nI (f + 8))), (3, .int z_24), (6, .int r_23), (4, .int 8), (0, .ref m0), (1, .int m9), (2, .int 1)]) hx hb dX9_nodes_83 hl (by decide) rfl (fun ls hl => ?_)
                                                    refine lv_goto (tgt := 15) hx hb dX9_nodes_85 (by decide) ?_
                                                    exact ih15  (f + 8) z_24 (by omega) (by first | assumption | omega | decide +kernel) ls (lv_sub hl [0, 3, 1, 4, 5, 6] rfl)
                                                  ·
                                                    have d43 : r_23.toInt ≥ m9.toInt := my_nlt c43 rfl rfl
                                                    refine lv_iload_n hx hb dX9_nodes_46 rfl (lv_at hl 6 rfl) ?_
                                                    refine lv_if_eq (tgt := 68) hx hb dX9_nodes_47 (by decide) (fun c47 => ?_) (fun c47 => ?_)
                                                    ·
                                                      exact absurd c47 (by decide +kernel)
                                                    ·
                                                      refine lv_aload_n hx hb dX9_nodes_50 rfl (lv_at hl 4 rfl) ?_
                                                      refine lv_iconst (v := 1) hx hb dX9_nodes_51 (by decide +kernel) ?_
                                                      refine lv_iload hx hb dX9_nodes_52 (lv_at hl 1 rfl) ?_
                                                      refine lv_iload hx hb dX9_nodes_54 (lv_at hl 1 rfl) ?_
                                                      refine lv_iload hx hb dX9_nodes_56 (lv_at hl 2 rfl) ?_
                                                      refine lv_iadd hx hb dX9_nodes_58 ?_
                                                      refine my_eqi (y := nI (f + 8)) (my_addN f 8) ?_
                                                      refine lv_iconst (v := 1) hx hb dX9_nodes_59 (by decide +kernel) ?_
                                                      refine lv_isub hx hb dX9_nodes_60 ?_
                                                      refine lv_topi (fun z_25 ez_25 => ?_)
                                                      try have tz_25 : z_25.toInt = ((f + 8 : Nat) : Int) - (1 : Int) := by rw [ez_25]; exact my_subI (nI_toInt (by omega)) (by decide +kernel) (by omega) (by omega)
                                                      refine my_gpI (my_pV (As := [.int 1, .int (nI f), .int z_25]) (rest := [.int y3_15]) (ci := 9) ⟨hx, hb, hml, hown, hts⟩ (cwV 3 hts gX9_nodes_X9_within rfl rfl rfl (by decide +kernel) ⟨Nat.le_of_ble_eq_true rfl, Nat.le_of_ble_eq_true rfl⟩) hN hK hP [0, 1] rfl 0 rfl rfl rfl rfl hl.1 rfl (Nat.le_of_ble_eq_true rfl) dX9_nodes_61 ⟨Nat.le_of_ble_eq_true rfl, Nat.le_of_ble_eq_true rfl⟩  (k1_X9_within l D cI cJ cK m0 a_row a_tape a_number a_read a_readBits a_stands a_parted a_bitsWere a_stood a_chosen a_bestChosen a_often a_sorted a_risen a_risenWays m_thrown m_told m_taped m_at m_to m_many m_readMany m_fewest m_size mf (nI f) ((f : Nat) : Int) (nI_toInt (by omega)) z_25 z_25.toInt rfl (by first | assumption | omega | decide +kernel) (by first | assumption | omega | decide +kernel) (by first | assumption | omega | decide +kernel) (by first | assumption | omega | decide +kernel) (by first | assumption | omega | decide +kernel) (by first | assumption | omega | decide +kernel) (by first | assumption | omega | decide +kernel) (by first | assumption | omega | decide +kernel))) (fun r hp => ?_)
                                                      obtain _ := hp
                                                      obtain ⟨r_26, rfl⟩ : ∃ z, z = r := ⟨_, rfl⟩
                                                      refine lv_iload_n hx hb dX9_nodes_64 rfl (lv_at hl 5 rfl) ?_
                                                      refine lv_icmp_lt (tgt := 72) hx hb dX9_nodes_65 (by decide) (fun c65 => ?_) (fun c65 => ?_)
                                                      ·
                                                        have d65 : r_26.toInt < m9.toInt := my_lt c65 rfl rfl
                                                        refine lv_iconst (v := 0) hx hb dX9_nodes_72 (by decide +kernel) ?_
                                                        refine my_gpI (my_pS (As := [.int 0]) (rest := [.int y3_15]) ⟨hx, hb, hml, hown, hts⟩ (va_cwS 1 hts gX9_nodes_X9_flag rfl rfl rfl (by decide +kernel) ⟨Nat.le_of_ble_eq_true rfl, Nat.le_of_ble_eq_true rfl⟩) hN hK hP [] rfl rfl hl.1 rfl (Nat.le_of_ble_eq_true rfl) dX9_nodes_73 ⟨Nat.le_of_ble_eq_true rfl, Nat.le_of_ble_eq_true rfl⟩  (k0_X9_flag l D cI cJ cK )) (fun r hp => ?_)
                                                        obtain rfl := hp
                                                        refine lv_iadd hx hb dX9_nodes_76 ?_
                                                        refine lv_topi (fun z_27 ez_27 => ?_)
                                                        try have tz_27 : z_27.toInt = y3_15.toInt + (0 : Int) := by rw [ez_27]; exact my_addI rfl (by decide +kernel) (by omega) (by omega)
                                                        refine lv_istore_n (lv' := [(3, .int z_27), (6, .int r_23), (5, .int (nI f)), (4, .int 8), (0, .ref m0), (1, .int m9), (2, .int 1)]) hx hb dX9_nodes_77 rfl hl (by decide) rfl (fun ls hl => ?_)
                                                        refine lv_iload hx hb dX9_nodes_78 (lv_at hl 2 rfl) ?_
                                                        refine lv_iload hx hb dX9_nodes_80 (lv_at hl 3 rfl) ?_
                                                        refine lv_iadd hx hb dX9_nodes_82 ?_
                                                        refine my_eqi (y := nI (f + 8)) (my_addN f 8) ?_
                                                        refine lv_istore (lv' := [(5, .int (nI (f + 8))), (3, .int z_27), (6, .int r_23), (4, .int 8), (0, .ref m0), (1, .int m9), (2, .int 1)]) hx hb dX9_nodes_83 hl (by decide) rfl (fun ls hl => ?_)
                                                        refine lv_goto (tgt := 15) hx hb dX9_nodes_85 (by decide) ?_
                                                        exact ih15  (f + 8) z_27 (by omega) (by first | assumption | omega | decide +kernel) ls (lv_sub hl [0, 3, 1, 4, 5, 6] rfl)
                                                      ·
                                                        have d65 : r_26.toInt ≥ m9.toInt := my_nlt c65 rfl rfl
                                                        refine lv_iconst (v := 1) hx hb dX9_nodes_68 (by decide +kernel) ?_
                                                        refine lv_goto (tgt := 73) hx hb dX9_nodes_69 (by decide) ?_
                                                        refine my_gpI (my_pS (As := [.int 1]) (rest := [.int y3_15]) ⟨hx, hb, hml, hown, hts⟩ (va_cwS 1 hts gX9_nodes_X9_flag rfl rfl rfl (by decide +kernel) ⟨Nat.le_of_ble_eq_true rfl, Nat.le_of_ble_eq_true rfl⟩) hN hK hP [] rfl rfl hl.1 rfl (Nat.le_of_ble_eq_true rfl) dX9_nodes_73 ⟨Nat.le_of_ble_eq_true rfl, Nat.le_of_ble_eq_true rfl⟩  (k1_X9_flag l D cI cJ cK )) (fun r hp => ?_)
                                                        obtain rfl := hp
                                                        refine lv_iadd hx hb dX9_nodes_76 ?_
                                                        refine lv_topi (fun z_28 ez_28 => ?_)
                                                        try have tz_28 : z_28.toInt = y3_15.toInt + (1 : Int) := by rw [ez_28]; exact my_addI rfl (by decide +kernel) (by omega) (by omega)
                                                        refine lv_istore_n (lv' := [(3, .int z_28), (6, .int r_23), (5, .int (nI f)), (4, .int 8), (0, .ref m0), (1, .int m9), (2, .int 1)]) hx hb dX9_nodes_77 rfl hl (by decide) rfl (fun ls hl => ?_)
                                                        refine lv_iload hx hb dX9_nodes_78 (lv_at hl 2 rfl) ?_
                                                        refine lv_iload hx hb dX9_nodes_80 (lv_at hl 3 rfl) ?_
                                                        refine lv_iadd hx hb dX9_nodes_82 ?_
                                                        refine my_eqi (y := nI (f + 8)) (my_addN f 8) ?_
                                                        refine lv_istore (lv' := [(5, .int (nI (f + 8))), (3, .int z_28), (6, .int r_23), (4, .int 8), (0, .ref m0), (1, .int m9), (2, .int 1)]) hx hb dX9_nodes_83 hl (by decide) rfl (fun ls hl => ?_)
                                                        refine lv_goto (tgt := 15) hx hb dX9_nodes_85 (by decide) ?_
                                                        exact ih15  (f + 8) z_28 (by omega) (by first | assumption | omega | decide +kernel) ls (lv_sub hl [0, 3, 1, 4, 5, 6] rfl)
                                            exact loop15 ((512 - 0) + 1) 0 y3_15 (Nat.lt_succ_self _) (by first | assumption | omega | decide +kernel) ls (lv_sub hl [0, 1, 2, 3, 4, 5] rfl)
                                        ·
                                          have d20 : ((f : Nat) : Int) < (256 : Int) := my_nge c20 (nI_toInt (by omega)) (by decide +kernel)
                                          refine lv_aload_n hx hb dX9_nodes_23 rfl (lv_at hl 3 rfl) ?_
                                          refine lv_iconst (v := 0) hx hb dX9_nodes_24 (by decide +kernel) ?_
                                          refine lv_iload hx hb dX9_nodes_25 (lv_at hl 0 rfl) ?_
                                          refine lv_iload hx hb dX9_nodes_27 (lv_at hl 0 rfl) ?_
                                          refine lv_iload hx hb dX9_nodes_29 (lv_at hl 1 rfl) ?_
                                          refine lv_iadd hx hb dX9_nodes_31 ?_
                                          refine my_eqi (y := nI (f + 16)) (my_addN f 16) ?_
                                          refine lv_iconst (v := 1) hx hb dX9_nodes_32 (by decide +kernel) ?_
                                          refine lv_isub hx hb dX9_nodes_33 ?_
                                          refine lv_topi (fun z_29 ez_29 => ?_)
                                          try have tz_29 : z_29.toInt = ((f + 16 : Nat) : Int) - (1 : Int) := by rw [ez_29]; exact my_subI (nI_toInt (by omega)) (by decide +kernel) (by omega) (by omega)
                                          refine my_gpI (my_pV (As := [.int 0, .int (nI f), .int z_29]) (rest := []) (ci := 9) ⟨hx, hb, hml, hown, hts⟩ (cwV 3 hts gX9_nodes_X9_within rfl rfl rfl (by decide +kernel) ⟨Nat.le_of_ble_eq_true rfl, Nat.le_of_ble_eq_true rfl⟩) hN hK hP [0, 1] rfl 0 rfl rfl rfl rfl hl.1 rfl (Nat.le_of_ble_eq_true rfl) dX9_nodes_34 ⟨Nat.le_of_ble_eq_true rfl, Nat.le_of_ble_eq_true rfl⟩  (k0_X9_within l D cI cJ cK m0 a_row a_tape a_number a_read a_readBits a_stands a_parted a_bitsWere a_stood a_chosen a_bestChosen a_often a_sorted a_risen a_risenWays m_thrown m_told m_taped m_at m_to m_many m_readMany m_fewest m_size mf (nI f) ((f : Nat) : Int) (nI_toInt (by omega)) z_29 z_29.toInt rfl (by first | assumption | omega | decide +kernel) (by first | assumption | omega | decide +kernel) (by first | assumption | omega | decide +kernel) (by first | assumption | omega | decide +kernel) (by first | assumption | omega | decide +kernel) (by first | assumption | omega | decide +kernel) (by first | assumption | omega | decide +kernel) (by first | assumption | omega | decide +kernel))) (fun r hp => ?_)
                                          obtain _ := hp
                                          obtain ⟨r_30, rfl⟩ : ∃ z, z = r := ⟨_, rfl⟩
                                          refine lv_istore (lv' := [(6, .int r_30), (5, .int (nI f)), (4, .int 16), (3, .int y3_15), (0, .ref m0), (1, .int m9), (2, .int 1)]) hx hb dX9_nodes_37 hl (by decide) rfl (fun ls hl => ?_)
                                          refine lv_iload_n hx hb dX9_nodes_39 rfl (lv_at hl 3 rfl) ?_
                                          refine lv_iload hx hb dX9_nodes_40 (lv_at hl 0 rfl) ?_
                                          refine lv_iload_n hx hb dX9_nodes_42 rfl (lv_at hl 5 rfl) ?_
                                          refine lv_icmp_lt (tgt := 72) hx hb dX9_nodes_43 (by decide) (fun c43 => ?_) (fun c43 => ?_)
                                          ·
                                            have d43 : r_30.toInt < m9.toInt := my_lt c43 rfl rfl
                                            refine lv_iconst (v := 0) hx hb dX9_nodes_72 (by decide +kernel) ?_
                                            refine my_gpI (my_pS (As := [.int 0]) (rest := [.int y3_15]) ⟨hx, hb, hml, hown, hts⟩ (va_cwS 1 hts gX9_nodes_X9_flag rfl rfl rfl (by decide +kernel) ⟨Nat.le_of_ble_eq_true rfl, Nat.le_of_ble_eq_true rfl⟩) hN hK hP [] rfl rfl hl.1 rfl (Nat.le_of_ble_eq_true rfl) dX9_nodes_73 ⟨Nat.le_of_ble_eq_true rfl, Nat.le_of_ble_eq_true rfl⟩  (k0_X9_flag l D cI cJ cK )) (fun r hp => ?_)
                                            obtain rfl := hp
                                            refine lv_iadd hx hb dX9_nodes_76 ?_
                                            refine lv_topi (fun z_31 ez_31 => ?_)
                                            try have tz_31 : z_31.toInt = y3_15.toInt + (0 : Int) := by rw [ez_31]; exact my_addI rfl (by decide +kernel) (by omega) (by omega)
                                            refine lv_istore_n (lv' := [(3, .int z_31), (6, .int r_30), (5, .int (nI f)), (4, .int 16), (0, .ref m0), (1, .int m9), (2, .int 1)]) hx hb dX9_nodes_77 rfl hl (by decide) rfl (fun ls hl => ?_)
                                            refine lv_iload hx hb dX9_nodes_78 (lv_at hl 2 rfl) ?_
                                            refine lv_iload hx hb dX9_nodes_80 (lv_at hl 3 rfl) ?_
                                            refine lv_iadd hx hb dX9_nodes_82 ?_
                                            refine my_eqi (y := nI (f + 16)) (my_addN f 16) ?_
                                            refine lv_istore (lv' := [(5, .int (nI (f + 16))), (3, .int z_31), (6, .int r_30), (4, .int 16), (0, .ref m0), (1, .int m9), (2, .int 1)]) hx hb dX9_nodes_83 hl (by decide) rfl (fun ls hl => ?_)
                                            refine lv_goto (tgt := 15) hx hb dX9_nodes_85 (by decide) ?_
                                            exact ih15  (f + 16) z_31 (by omega) (by first | assumption | omega | decide +kernel) ls (lv_sub hl [0, 3, 1, 4, 5, 6] rfl)
                                          ·
                                            have d43 : r_30.toInt ≥ m9.toInt := my_nlt c43 rfl rfl
                                            refine lv_iload_n hx hb dX9_nodes_46 rfl (lv_at hl 6 rfl) ?_
                                            refine lv_if_eq (tgt := 68) hx hb dX9_nodes_47 (by decide) (fun c47 => ?_) (fun c47 => ?_)
                                            ·
                                              exact absurd c47 (by decide +kernel)
                                            ·
                                              refine lv_aload_n hx hb dX9_nodes_50 rfl (lv_at hl 4 rfl) ?_
                                              refine lv_iconst (v := 1) hx hb dX9_nodes_51 (by decide +kernel) ?_
                                              refine lv_iload hx hb dX9_nodes_52 (lv_at hl 1 rfl) ?_
                                              refine lv_iload hx hb dX9_nodes_54 (lv_at hl 1 rfl) ?_
                                              refine lv_iload hx hb dX9_nodes_56 (lv_at hl 2 rfl) ?_
                                              refine lv_iadd hx hb dX9_nodes_58 ?_
                                              refine my_eqi (y := nI (f + 16)) (my_addN f 16) ?_
                                              refine lv_iconst (v := 1) hx hb dX9_nodes_59 (by decide +kernel) ?_
                                              refine lv_isub hx hb dX9_nodes_60 ?_
                                              refine lv_topi (fun z_32 ez_32 => ?_)
                                              try have tz_32 : z_32.toInt = ((f + 16 : Nat) : Int) - (1 : Int) := by rw [ez_32]; exact my_subI (nI_toInt (by omega)) (by decide +kernel) (by omega) (by omega)
                                              refine my_gpI (my_pV (As := [.int 1, .int (nI f), .int z_32]) (rest := [.int y3_15]) (ci := 9) ⟨hx, hb, hml, hown, hts⟩ (cwV 3 hts gX9_nodes_X9_within rfl rfl rfl (by decide +kernel) ⟨Nat.le_of_ble_eq_true rfl, Nat.le_of_ble_eq_true rfl⟩) hN hK hP [0, 1] rfl 0 rfl rfl rfl rfl hl.1 rfl (Nat.le_of_ble_eq_true rfl) dX9_nodes_61 ⟨Nat.le_of_ble_eq_true rfl, Nat.le_of_ble_eq_true rfl⟩  (k1_X9_within l D cI cJ cK m0 a_row a_tape a_number a_read a_readBits a_stands a_parted a_bitsWere a_stood a_chosen a_bestChosen a_often a_sorted a_risen a_risenWays m_thrown m_told m_taped m_at m_to m_many m_readMany m_fewest m_size mf (nI f) ((f : Nat) : Int) (nI_toInt (by omega)) z_32 z_32.toInt rfl (by first | assumption | omega | decide +kernel) (by first | assumption | omega | decide +kernel) (by first | assumption | omega | decide +kernel) (by first | assumption | omega | decide +kernel) (by first | assumption | omega | decide +kernel) (by first | assumption | omega | decide +kernel) (by first | assumption | omega | decide +kernel) (by first | assumption | omega | decide +kernel))) (fun r hp => ?_)
                                              obtain _ := hp
                                              obtain ⟨r_33, rfl⟩ : ∃ z, z = r := ⟨_, rfl⟩
                                              refine lv_iload_n hx hb dX9_nodes_64 rfl (lv_at hl 5 rfl) ?_
                                              refine lv_icmp_lt (tgt := 72) hx hb dX9_nodes_65 (by decide) (fun c65 => ?_) (fun c65 => ?_)
                                              ·
                                                have d65 : r_33.toInt < m9.toInt := my_lt c65 rfl rfl
                                                refine lv_iconst (v := 0) hx hb dX9_nodes_72 (by decide +kernel) ?_
                                                refine my_gpI (my_pS (As := [.int 0]) (rest := [.int y3_15]) ⟨hx, hb, hml, hown, hts⟩ (va_cwS 1 hts gX9_nodes_X9_flag rfl rfl rfl (by decide +kernel) ⟨Nat.le_of_ble_eq_true rfl, Nat.le_of_ble_eq_true rfl⟩) hN hK hP [] rfl rfl hl.1 rfl (Nat.le_of_ble_eq_true rfl) dX9_nodes_73 ⟨Nat.le_of_ble_eq_true rfl, Nat.le_of_ble_eq_true rfl⟩  (k0_X9_flag l D cI cJ cK )) (fun r hp => ?_)
                                                obtain rfl := hp
                                                refine lv_iadd hx hb dX9_nodes_76 ?_
                                                refine lv_topi (fun z_34 ez_34 => ?_)
                                                try have tz_34 : z_34.toInt = y3_15.toInt + (0 : Int) := by rw [ez_34]; exact my_addI rfl (by decide +kernel) (by omega) (by omega)
                                                refine lv_istore_n (lv' := [(3, .int z_34), (6, .int r_30), (5, .int (nI f)), (4, .int 16), (0, .ref m0), (1, .int m9), (2, .int 1)]) hx hb dX9_nodes_77 rfl hl (by decide) rfl (fun ls hl => ?_)
                                                refine lv_iload hx hb dX9_nodes_78 (lv_at hl 2 rfl) ?_
                                                refine lv_iload hx hb dX9_nodes_80 (lv_at hl 3 rfl) ?_
                                                refine lv_iadd hx hb dX9_nodes_82 ?_
                                                refine my_eqi (y := nI (f + 16)) (my_addN f 16) ?_
                                                refine lv_istore (lv' := [(5, .int (nI (f + 16))), (3, .int z_34), (6, .int r_30), (4, .int 16), (0, .ref m0), (1, .int m9), (2, .int 1)]) hx hb dX9_nodes_83 hl (by decide) rfl (fun ls hl => ?_)
                                                refine lv_goto (tgt := 15) hx hb dX9_nodes_85 (by decide) ?_
                                                exact ih15  (f + 16) z_34 (by omega) (by first | assumption | omega | decide +kernel) ls (lv_sub hl [0, 3, 1, 4, 5, 6] rfl)
                                              ·
                                                have d65 : r_33.toInt ≥ m9.toInt := my_nlt c65 rfl rfl
                                                refine lv_iconst (v := 1) hx hb dX9_nodes_68 (by decide +kernel) ?_
                                                refine lv_goto (tgt := 73) hx hb dX9_nodes_69 (by decide) ?_
                                                refine my_gpI (my_pS (As := [.int 1]) (rest := [.int y3_15]) ⟨hx, hb, hml, hown, hts⟩ (va_cwS 1 hts gX9_nodes_X9_flag rfl rfl rfl (by decide +kernel) ⟨Nat.le_of_ble_eq_true rfl, Nat.le_of_ble_eq_true rfl⟩) hN hK hP [] rfl rfl hl.1 rfl (Nat.le_of_ble_eq_true rfl) dX9_nodes_73 ⟨Nat.le_of_ble_eq_true rfl, Nat.le_of_ble_eq_true rfl⟩  (k1_X9_flag l D cI cJ cK )) (fun r hp => ?_)
                                                obtain rfl := hp
                                                refine lv_iadd hx hb dX9_nodes_76 ?_
                                                refine lv_topi (fun z_35 ez_35 => ?_)
                                                try have tz_35 : z_35.toInt = y3_15.toInt + (1 : Int) := by rw [ez_35]; exact my_addI rfl (by decide +kernel) (by omega) (by omega)
                                                refine lv_istore_n (lv' := [(3, .int z_35), (6, .int r_30), (5, .int (nI f)), (4, .int 16), (0, .ref m0), (1, .int m9), (2, .int 1)]) hx hb dX9_nodes_77 rfl hl (by decide) rfl (fun ls hl => ?_)
                                                refine lv_iload hx hb dX9_nodes_78 (lv_at hl 2 rfl) ?_
                                                refine lv_iload hx hb dX9_nodes_80 (lv_at hl 3 rfl) ?_
                                                refine lv_iadd hx hb dX9_nodes_82 ?_
                                                refine my_eqi (y := nI (f + 16)) (my_addN f 16) ?_
                                                refine lv_istore (lv' := [(5, .int (nI (f + 16))), (3, .int z_35), (6, .int r_30), (4, .int 16), (0, .ref m0), (1, .int m9), (2, .int 1)]) hx hb dX9_nodes_83 hl (by decide) rfl (fun ls hl => ?_)
                                                refine lv_goto (tgt := 15) hx hb dX9_nodes_85 (by decide) ?_
                                                exact ih15  (f + 16) z_35 (by omega) (by first | assumption | omega | decide +kernel) ls (lv_sub hl [0, 3, 1, 4, 5, 6] rfl)
                                    exact loop15 ((512 - 0) + 1) 0 y3_15 (Nat.lt_succ_self _) (by first | assumption | omega | decide +kernel) ls (lv_sub hl [0, 1, 2, 3, 4, 5] rfl)
                                ·
                                  have d20 : ((f : Nat) : Int) < (256 : Int) := my_nge c20 (nI_toInt (by omega)) (by decide +kernel)
                                  refine lv_aload_n hx hb dX9_nodes_23 rfl (lv_at hl 3 rfl) ?_
                                  refine lv_iconst (v := 0) hx hb dX9_nodes_24 (by decide +kernel) ?_
                                  refine lv_iload hx hb dX9_nodes_25 (lv_at hl 0 rfl) ?_
                                  refine lv_iload hx hb dX9_nodes_27 (lv_at hl 0 rfl) ?_
                                  refine lv_iload hx hb dX9_nodes_29 (lv_at hl 1 rfl) ?_
                                  refine lv_iadd hx hb dX9_nodes_31 ?_
                                  refine my_eqi (y := nI (f + 32)) (my_addN f 32) ?_
                                  refine lv_iconst (v := 1) hx hb dX9_nodes_32 (by decide +kernel) ?_
                                  refine lv_isub hx hb dX9_nodes_33 ?_
                                  refine lv_topi (fun z_36 ez_36 => ?_)
                                  try have tz_36 : z_36.toInt = ((f + 32 : Nat) : Int) - (1 : Int) := by rw [ez_36]; exact my_subI (nI_toInt (by omega)) (by decide +kernel) (by omega) (by omega)
                                  refine my_gpI (my_pV (As := [.int 0, .int (nI f), .int z_36]) (rest := []) (ci := 9) ⟨hx, hb, hml, hown, hts⟩ (cwV 3 hts gX9_nodes_X9_within rfl rfl rfl (by decide +kernel) ⟨Nat.le_of_ble_eq_true rfl, Nat.le_of_ble_eq_true rfl⟩) hN hK hP [0, 1] rfl 0 rfl rfl rfl rfl hl.1 rfl (Nat.le_of_ble_eq_true rfl) dX9_nodes_34 ⟨Nat.le_of_ble_eq_true rfl, Nat.le_of_ble_eq_true rfl⟩  (k0_X9_within l D cI cJ cK m0 a_row a_tape a_number a_read a_readBits a_stands a_parted a_bitsWere a_stood a_chosen a_bestChosen a_often a_sorted a_risen a_risenWays m_thrown m_told m_taped m_at m_to m_many m_readMany m_fewest m_size mf (nI f) ((f : Nat) : Int) (nI_toInt (by omega)) z_36 z_36.toInt rfl (by first | assumption | omega | decide +kernel) (by first | assumption | omega | decide +kernel) (by first | assumption | omega | decide +kernel) (by first | assumption | omega | decide +kernel) (by first | assumption | omega | decide +kernel) (by first | assumption | omega | decide +kernel) (by first | assumption | omega | decide +kernel) (by first | assumption | omega | decide +kernel))) (fun r hp => ?_)
                                  obtain _ := hp
                                  obtain ⟨r_37, rfl⟩ : ∃ z, z = r := ⟨_, rfl⟩
                                  refine lv_istore (lv' := [(6, .int r_37), (5, .int (nI f)), (4, .int 32), (3, .int y3_15), (0, .ref m0), (1, .int m9), (2, .int 1)]) hx hb dX9_nodes_37 hl (by decide) rfl (fun ls hl => ?_)
                                  refine lv_iload_n hx hb dX9_nodes_39 rfl (lv_at hl 3 rfl) ?_
                                  refine lv_iload hx hb dX9_nodes_40 (lv_at hl 0 rfl) ?_
                                  refine lv_iload_n hx hb dX9_nodes_42 rfl (lv_at hl 5 rfl) ?_
                                  refine lv_icmp_lt (tgt := 72) hx hb dX9_nodes_43 (by decide) (fun c43 => ?_) (fun c43 => ?_)
                                  ·
                                    have d43 : r_37.toInt < m9.toInt := my_lt c43 rfl rfl
                                    refine lv_iconst (v := 0) hx hb dX9_nodes_72 (by decide +kernel) ?_
                                    refine my_gpI (my_pS (As := [.int 0]) (rest := [.int y3_15]) ⟨hx, hb, hml, hown, hts⟩ (va_cwS 1 hts gX9_nodes_X9_flag rfl rfl rfl (by decide +kernel) ⟨Nat.le_of_ble_eq_true rfl, Nat.le_of_ble_eq_true rfl⟩) hN hK hP [] rfl rfl hl.1 rfl (Nat.le_of_ble_eq_true rfl) dX9_nodes_73 ⟨Nat.le_of_ble_eq_true rfl, Nat.le_of_ble_eq_true rfl⟩  (k0_X9_flag l D cI cJ cK )) (fun r hp => ?_)
                                    obtain rfl := hp
                                    refine lv_iadd hx hb dX9_nodes_76 ?_
                                    refine lv_topi (fun z_38 ez_38 => ?_)
                                    try have tz_38 : z_38.toInt = y3_15.toInt + (0 : Int) := by rw [ez_38]; exact my_addI rfl (by decide +kernel) (by omega) (by omega)
                                    refine lv_istore_n (lv' := [(3, .int z_38), (6, .int r_37), (5, .int (nI f)), (4, .int 32), (0, .ref m0), (1, .int m9), (2, .int 1)]) hx hb dX9_nodes_77 rfl hl (by decide) rfl (fun ls hl => ?_)
                                    refine lv_iload hx hb dX9_nodes_78 (lv_at hl 2 rfl) ?_
                                    refine lv_iload hx hb dX9_nodes_80 (lv_at hl 3 rfl) ?_
                                    refine lv_iadd hx hb dX9_nodes_82 ?_
                                    refine my_eqi (y := nI (f + 32)) (my_addN f 32) ?_
                                    refine lv_istore (lv' := [(5, .int (nI (f + 32))), (3, .int z_38), (6, .int r_37), (4, .int 32), (0, .ref m0), (1, .int m9), (2, .int 1)]) hx hb dX9_nodes_83 hl (by decide) rfl (fun ls hl => ?_)
                                    refine lv_goto (tgt := 15) hx hb dX9_nodes_85 (by decide) ?_
                                    exact ih15  (f + 32) z_38 (by omega) (by first | assumption | omega | decide +kernel) ls (lv_sub hl [0, 3, 1, 4, 5, 6] rfl)
                                  ·
                                    have d43 : r_37.toInt ≥ m9.toInt := my_nlt c43 rfl rfl
                                    refine lv_iload_n hx hb dX9_nodes_46 rfl (lv_at hl 6 rfl) ?_
                                    refine lv_if_eq (tgt := 68) hx hb dX9_nodes_47 (by decide) (fun c47 => ?_) (fun c47 => ?_)
                                    ·
                                      exact absurd c47 (by decide +kernel)
                                    ·
                                      refine lv_aload_n hx hb dX9_nodes_50 rfl (lv_at hl 4 rfl) ?_
                                      refine lv_iconst (v := 1) hx hb dX9_nodes_51 (by decide +kernel) ?_
                                      refine lv_iload hx hb dX9_nodes_52 (lv_at hl 1 rfl) ?_
                                      refine lv_iload hx hb dX9_nodes_54 (lv_at hl 1 rfl) ?_
                                      refine lv_iload hx hb dX9_nodes_56 (lv_at hl 2 rfl) ?_
                                      refine lv_iadd hx hb dX9_nodes_58 ?_
                                      refine my_eqi (y := nI (f + 32)) (my_addN f 32) ?_
                                      refine lv_iconst (v := 1) hx hb dX9_nodes_59 (by decide +kernel) ?_
                                      refine lv_isub hx hb dX9_nodes_60 ?_
                                      refine lv_topi (fun z_39 ez_39 => ?_)
                                      try have tz_39 : z_39.toInt = ((f + 32 : Nat) : Int) - (1 : Int) := by rw [ez_39]; exact my_subI (nI_toInt (by omega)) (by decide +kernel) (by omega) (by omega)
                                      refine my_gpI (my_pV (As := [.int 1, .int (nI f), .int z_39]) (rest := [.int y3_15]) (ci := 9) ⟨hx, hb, hml, hown, hts⟩ (cwV 3 hts gX9_nodes_X9_within rfl rfl rfl (by decide +kernel) ⟨Nat.le_of_ble_eq_true rfl, Nat.le_of_ble_eq_true rfl⟩) hN hK hP [0, 1] rfl 0 rfl rfl rfl rfl hl.1 rfl (Nat.le_of_ble_eq_true rfl) dX9_nodes_61 ⟨Nat.le_of_ble_eq_true rfl, Nat.le_of_ble_eq_true rfl⟩  (k1_X9_within l D cI cJ cK m0 a_row a_tape a_number a_read a_readBits a_stands a_parted a_bitsWere a_stood a_chosen a_bestChosen a_often a_sorted a_risen a_risenWays m_thrown m_told m_taped m_at m_to m_many m_readMany m_fewest m_size mf (nI f) ((f : Nat) : Int) (nI_toInt (by omega)) z_39 z_39.toInt rfl (by first | assumption | omega | decide +kernel) (by first | assumption | omega | decide +kernel) (by first | assumption | omega | decide +kernel) (by first | assumption | omega | decide +kernel) (by first | assumption | omega | decide +kernel) (by first | assumption | omega | decide +kernel) (by first | assumption | omega | decide +kernel) (by first | assumption | omega | decide +kernel))) (fun r hp => ?_)
                                      obtain _ := hp
                                      obtain ⟨r_40, rfl⟩ : ∃ z, z = r := ⟨_, rfl⟩
                                      refine lv_iload_n hx hb dX9_nodes_64 rfl (lv_at hl 5 rfl) ?_
                                      refine lv_icmp_lt (tgt := 72) hx hb dX9_nodes_65 (by decide) (fun c65 => ?_) (fun c65 => ?_)
                                      ·
                                        have d65 : r_40.toInt < m9.toInt := my_lt c65 rfl rfl
                                        refine lv_iconst (v := 0) hx hb dX9_nodes_72 (by decide +kernel) ?_
                                        refine my_gpI (my_pS (As := [.int 0]) (rest := [.int y3_15]) ⟨hx, hb, hml, hown, hts⟩ (va_cwS 1 hts gX9_nodes_X9_flag rfl rfl rfl (by decide +kernel) ⟨Nat.le_of_ble_eq_true rfl, Nat.le_of_ble_eq_true rfl⟩) hN hK hP [] rfl rfl hl.1 rfl (Nat.le_of_ble_eq_true rfl) dX9_nodes_73 ⟨Nat.le_of_ble_eq_true rfl, Nat.le_of_ble_eq_true rfl⟩  (k0_X9_flag l D cI cJ cK )) (fun r hp => ?_)
                                        obtain rfl := hp
                                        refine lv_iadd hx hb dX9_nodes_76 ?_
                                        refine lv_topi (fun z_41 ez_41 => ?_)
                                        try have tz_41 : z_41.toInt = y3_15.toInt + (0 : Int) := by rw [ez_41]; exact my_addI rfl (by decide +kernel) (by omega) (by omega)
                                        refine lv_istore_n (lv' := [(3, .int z_41), (6, .int r_37), (5, .int (nI f)), (4, .int 32), (0, .ref m0), (1, .int m9), (2, .int 1)]) hx hb dX9_nodes_77 rfl hl (by decide) rfl (fun ls hl => ?_)
                                        refine lv_iload hx hb dX9_nodes_78 (lv_at hl 2 rfl) ?_
                                        refine lv_iload hx hb dX9_nodes_80 (lv_at hl 3 rfl) ?_
                                        refine lv_iadd hx hb dX9_nodes_82 ?_
                                        refine my_eqi (y := nI (f + 32)) (my_addN f 32) ?_
                                        refine lv_istore (lv' := [(5, .int (nI (f + 32))), (3, .int z_41), (6, .int r_37), (4, .int 32), (0, .ref m0), (1, .int m9), (2, .int 1)]) hx hb dX9_nodes_83 hl (by decide) rfl (fun ls hl => ?_)
                                        refine lv_goto (tgt := 15) hx hb dX9_nodes_85 (by decide) ?_
                                        exact ih15  (f + 32) z_41 (by omega) (by first | assumption | omega | decide +kernel) ls (lv_sub hl [0, 3, 1, 4, 5, 6] rfl)
                                      ·
                                        have d65 : r_40.toInt ≥ m9.toInt := my_nlt c65 rfl rfl
                                        refine lv_iconst (v := 1) hx hb dX9_nodes_68 (by decide +kernel) ?_
                                        refine lv_goto (tgt := 73) hx hb dX9_nodes_69 (by decide) ?_
                                        refine my_gpI (my_pS (As := [.int 1]) (rest := [.int y3_15]) ⟨hx, hb, hml, hown, hts⟩ (va_cwS 1 hts gX9_nodes_X9_flag rfl rfl rfl (by decide +kernel) ⟨Nat.le_of_ble_eq_true rfl, Nat.le_of_ble_eq_true rfl⟩) hN hK hP [] rfl rfl hl.1 rfl (Nat.le_of_ble_eq_true rfl) dX9_nodes_73 ⟨Nat.le_of_ble_eq_true rfl, Nat.le_of_ble_eq_true rfl⟩  (k1_X9_flag l D cI cJ cK )) (fun r hp => ?_)
                                        obtain rfl := hp
                                        refine lv_iadd hx hb dX9_nodes_76 ?_
                                        refine lv_topi (fun z_42 ez_42 => ?_)
                                        try have tz_42 : z_42.toInt = y3_15.toInt + (1 : Int) := by rw [ez_42]; exact my_addI rfl (by decide +kernel) (by omega) (by omega)
                                        refine lv_istore_n (lv' := [(3, .int z_42), (6, .int r_37), (5, .int (nI f)), (4, .int 32), (0, .ref m0), (1, .int m9), (2, .int 1)]) hx hb dX9_nodes_77 rfl hl (by decide) rfl (fun ls hl => ?_)
                                        refine lv_iload hx hb dX9_nodes_78 (lv_at hl 2 rfl) ?_
                                        refine lv_iload hx hb dX9_nodes_80 (lv_at hl 3 rfl) ?_
                                        refine lv_iadd hx hb dX9_nodes_82 ?_
                                        refine my_eqi (y := nI (f + 32)) (my_addN f 32) ?_
                                        refine lv_istore (lv' := [(5, .int (nI (f + 32))), (3, .int z_42), (6, .int r_37), (4, .int 32), (0, .ref m0), (1, .int m9), (2, .int 1)]) hx hb dX9_nodes_83 hl (by decide) rfl (fun ls hl => ?_)
                                        refine lv_goto (tgt := 15) hx hb dX9_nodes_85 (by decide) ?_
                                        exact ih15  (f + 32) z_42 (by omega) (by first | assumption | omega | decide +kernel) ls (lv_sub hl [0, 3, 1, 4, 5, 6] rfl)
                            exact loop15 ((512 - 0) + 1) 0 y3_15 (Nat.lt_succ_self _) (by first | assumption | omega | decide +kernel) ls (lv_sub hl [0, 1, 2, 3, 4, 5] rfl)
                        ·
                          have d20 : ((f : Nat) : Int) < (256 : Int) := my_nge c20 (nI_toInt (by omega)) (by decide +kernel)
                          refine lv_aload_n hx hb dX9_nodes_23 rfl (lv_at hl 3 rfl) ?_
                          refine lv_iconst (v := 0) hx hb dX9_nodes_24 (by decide +kernel) ?_
                          refine lv_iload hx hb dX9_nodes_25 (lv_at hl 0 rfl) ?_
                          refine lv_iload hx hb dX9_nodes_27 (lv_at hl 0 rfl) ?_
                          refine lv_iload hx hb dX9_nodes_29 (lv_at hl 1 rfl) ?_
                          refine lv_iadd hx hb dX9_nodes_31 ?_
                          refine my_eqi (y := nI (f + 64)) (my_addN f 64) ?_
                          refine lv_iconst (v := 1) hx hb dX9_nodes_32 (by decide +kernel) ?_
                          refine lv_isub hx hb dX9_nodes_33 ?_
                          refine lv_topi (fun z_43 ez_43 => ?_)
                          try have tz_43 : z_43.toInt = ((f + 64 : Nat) : Int) - (1 : Int) := by rw [ez_43]; exact my_subI (nI_toInt (by omega)) (by decide +kernel) (by omega) (by omega)
                          refine my_gpI (my_pV (As := [.int 0, .int (nI f), .int z_43]) (rest := []) (ci := 9) ⟨hx, hb, hml, hown, hts⟩ (cwV 3 hts gX9_nodes_X9_within rfl rfl rfl (by decide +kernel) ⟨Nat.le_of_ble_eq_true rfl, Nat.le_of_ble_eq_true rfl⟩) hN hK hP [0, 1] rfl 0 rfl rfl rfl rfl hl.1 rfl (Nat.le_of_ble_eq_true rfl) dX9_nodes_34 ⟨Nat.le_of_ble_eq_true rfl, Nat.le_of_ble_eq_true rfl⟩  (k0_X9_within l D cI cJ cK m0 a_row a_tape a_number a_read a_readBits a_stands a_parted a_bitsWere a_stood a_chosen a_bestChosen a_often a_sorted a_risen a_risenWays m_thrown m_told m_taped m_at m_to m_many m_readMany m_fewest m_size mf (nI f) ((f : Nat) : Int) (nI_toInt (by omega)) z_43 z_43.toInt rfl (by first | assumption | omega | decide +kernel) (by first | assumption | omega | decide +kernel) (by first | assumption | omega | decide +kernel) (by first | assumption | omega | decide +kernel) (by first | assumption | omega | decide +kernel) (by first | assumption | omega | decide +kernel) (by first | assumption | omega | decide +kernel) (by first | assumption | omega | decide +kernel))) (fun r hp => ?_)
                          obtain _ := hp
                          obtain ⟨r_44, rfl⟩ : ∃ z, z = r := ⟨_, rfl⟩
                          refine lv_istore (lv' := [(6, .int r_44), (5, .int (nI f)), (4, .int 64), (3, .int y3_15), (0, .ref m0), (1, .int m9), (2, .int 1)]) hx hb dX9_nodes_37 hl (by decide) rfl (fun ls hl => ?_)
                          refine lv_iload_n hx hb dX9_nodes_39 rfl (lv_at hl 3 rfl) ?_
                          refine lv_iload hx hb dX9_nodes_40 (lv_at hl 0 rfl) ?_
                          refine lv_iload_n hx hb dX9_nodes_42 rfl (lv_at hl 5 rfl) ?_
                          refine lv_icmp_lt (tgt := 72) hx hb dX9_nodes_43 (by decide) (fun c43 => ?_) (fun c43 => ?_)
                          ·
                            have d43 : r_44.toInt < m9.toInt := my_lt c43 rfl rfl
                            refine lv_iconst (v := 0) hx hb dX9_nodes_72 (by decide +kernel) ?_
                            refine my_gpI (my_pS (As := [.int 0]) (rest := [.int y3_15]) ⟨hx, hb, hml, hown, hts⟩ (va_cwS 1 hts gX9_nodes_X9_flag rfl rfl rfl (by decide +kernel) ⟨Nat.le_of_ble_eq_true rfl, Nat.le_of_ble_eq_true rfl⟩) hN hK hP [] rfl rfl hl.1 rfl (Nat.le_of_ble_eq_true rfl) dX9_nodes_73 ⟨Nat.le_of_ble_eq_true rfl, Nat.le_of_ble_eq_true rfl⟩  (k0_X9_flag l D cI cJ cK )) (fun r hp => ?_)
                            obtain rfl := hp
                            refine lv_iadd hx hb dX9_nodes_76 ?_
                            refine lv_topi (fun z_45 ez_45 => ?_)
                            try have tz_45 : z_45.toInt = y3_15.toInt + (0 : Int) := by rw [ez_45]; exact my_addI rfl (by decide +kernel) (by omega) (by omega)
                            refine lv_istore_n (lv' := [(3, .int z_45), (6, .int r_44), (5, .int (nI f)), (4, .int 64), (0, .ref m0), (1, .int m9), (2, .int 1)]) hx hb dX9_nodes_77 rfl hl (by decide) rfl (fun ls hl => ?_)
                            refine lv_iload hx hb dX9_nodes_78 (lv_at hl 2 rfl) ?_
                            refine lv_iload hx hb dX9_nodes_80 (lv_at hl 3 rfl) ?_
                            refine lv_iadd hx hb dX9_nodes_82 ?_
                            refine my_eqi (y := nI (f + 64)) (my_addN f 64) ?_
                            refine lv_istore (lv' := [(5, .int (nI (f + 64))), (3, .int z_45), (6, .int r_44), (4, .int 64), (0, .ref m0), (1, .int m9), (2, .int 1)]) hx hb dX9_nodes_83 hl (by decide) rfl (fun ls hl => ?_)
                            refine lv_goto (tgt := 15) hx hb dX9_nodes_85 (by decide) ?_
                            exact ih15  (f + 64) z_45 (by omega) (by first | assumption | omega | decide +kernel) ls (lv_sub hl [0, 3, 1, 4, 5, 6] rfl)
                          ·
                            have d43 : r_44.toInt ≥ m9.toInt := my_nlt c43 rfl rfl
                            refine lv_iload_n hx hb dX9_nodes_46 rfl (lv_at hl 6 rfl) ?_
                            refine lv_if_eq (tgt := 68) hx hb dX9_nodes_47 (by decide) (fun c47 => ?_) (fun c47 => ?_)
                            ·
                              exact absurd c47 (by decide +kernel)
                            ·
                              refine lv_aload_n hx hb dX9_nodes_50 rfl (lv_at hl 4 rfl) ?_
                              refine lv_iconst (v := 1) hx hb dX9_nodes_51 (by decide +kernel) ?_
                              refine lv_iload hx hb dX9_nodes_52 (lv_at hl 1 rfl) ?_
                              refine lv_iload hx hb dX9_nodes_54 (lv_at hl 1 rfl) ?_
                              refine lv_iload hx hb dX9_nodes_56 (lv_at hl 2 rfl) ?_
                              refine lv_iadd hx hb dX9_nodes_58 ?_
                              refine my_eqi (y := nI (f + 64)) (my_addN f 64) ?_
                              refine lv_iconst (v := 1) hx hb dX9_nodes_59 (by decide +kernel) ?_
                              refine lv_isub hx hb dX9_nodes_60 ?_
                              refine lv_topi (fun z_46 ez_46 => ?_)
                              try have tz_46 : z_46.toInt = ((f + 64 : Nat) : Int) - (1 : Int) := by rw [ez_46]; exact my_subI (nI_toInt (by omega)) (by decide +kernel) (by omega) (by omega)
                              refine my_gpI (my_pV (As := [.int 1, .int (nI f), .int z_46]) (rest := [.int y3_15]) (ci := 9) ⟨hx, hb, hml, hown, hts⟩ (cwV 3 hts gX9_nodes_X9_within rfl rfl rfl (by decide +kernel) ⟨Nat.le_of_ble_eq_true rfl, Nat.le_of_ble_eq_true rfl⟩) hN hK hP [0, 1] rfl 0 rfl rfl rfl rfl hl.1 rfl (Nat.le_of_ble_eq_true rfl) dX9_nodes_61 ⟨Nat.le_of_ble_eq_true rfl, Nat.le_of_ble_eq_true rfl⟩  (k1_X9_within l D cI cJ cK m0 a_row a_tape a_number a_read a_readBits a_stands a_parted a_bitsWere a_stood a_chosen a_bestChosen a_often a_sorted a_risen a_risenWays m_thrown m_told m_taped m_at m_to m_many m_readMany m_fewest m_size mf (nI f) ((f : Nat) : Int) (nI_toInt (by omega)) z_46 z_46.toInt rfl (by first | assumption | omega | decide +kernel) (by first | assumption | omega | decide +kernel) (by first | assumption | omega | decide +kernel) (by first | assumption | omega | decide +kernel) (by first | assumption | omega | decide +kernel) (by first | assumption | omega | decide +kernel) (by first | assumption | omega | decide +kernel) (by first | assumption | omega | decide +kernel))) (fun r hp => ?_)
                              obtain _ := hp
                              obtain ⟨r_47, rfl⟩ : ∃ z, z = r := ⟨_, rfl⟩
                              refine lv_iload_n hx hb dX9_nodes_64 rfl (lv_at hl 5 rfl) ?_
                              refine lv_icmp_lt (tgt := 72) hx hb dX9_nodes_65 (by decide) (fun c65 => ?_) (fun c65 => ?_)
                              ·
                                have d65 : r_47.toInt < m9.toInt := my_lt c65 rfl rfl
                                refine lv_iconst (v := 0) hx hb dX9_nodes_72 (by decide +kernel) ?_
                                refine my_gpI (my_pS (As := [.int 0]) (rest := [.int y3_15]) ⟨hx, hb, hml, hown, hts⟩ (va_cwS 1 hts gX9_nodes_X9_flag rfl rfl rfl (by decide +kernel) ⟨Nat.le_of_ble_eq_true rfl, Nat.le_of_ble_eq_true rfl⟩) hN hK hP [] rfl rfl hl.1 rfl (Nat.le_of_ble_eq_true rfl) dX9_nodes_73 ⟨Nat.le_of_ble_eq_true rfl, Nat.le_of_ble_eq_true rfl⟩  (k0_X9_flag l D cI cJ cK )) (fun r hp => ?_)
                                obtain rfl := hp
                                refine lv_iadd hx hb dX9_nodes_76 ?_
                                refine lv_topi (fun z_48 ez_48 => ?_)
                                try have tz_48 : z_48.toInt = y3_15.toInt + (0 : Int) := by rw [ez_48]; exact my_addI rfl (by decide +kernel) (by omega) (by omega)
                                refine lv_istore_n (lv' := [(3, .int z_48), (6, .int r_44), (5, .int (nI f)), (4, .int 64), (0, .ref m0), (1, .int m9), (2, .int 1)]) hx hb dX9_nodes_77 rfl hl (by decide) rfl (fun ls hl => ?_)
                                refine lv_iload hx hb dX9_nodes_78 (lv_at hl 2 rfl) ?_
                                refine lv_iload hx hb dX9_nodes_80 (lv_at hl 3 rfl) ?_
                                refine lv_iadd hx hb dX9_nodes_82 ?_
                                refine my_eqi (y := nI (f + 64)) (my_addN f 64) ?_
                                refine lv_istore (lv' := [(5, .int (nI (f + 64))), (3, .int z_48), (6, .int r_44), (4, .int 64), (0, .ref m0), (1, .int m9), (2, .int 1)]) hx hb dX9_nodes_83 hl (by decide) rfl (fun ls hl => ?_)
                                refine lv_goto (tgt := 15) hx hb dX9_nodes_85 (by decide) ?_
                                exact ih15  (f + 64) z_48 (by omega) (by first | assumption | omega | decide +kernel) ls (lv_sub hl [0, 3, 1, 4, 5, 6] rfl)
                              ·
                                have d65 : r_47.toInt ≥ m9.toInt := my_nlt c65 rfl rfl
                                refine lv_iconst (v := 1) hx hb dX9_nodes_68 (by decide +kernel) ?_
                                refine lv_goto (tgt := 73) hx hb dX9_nodes_69 (by decide) ?_
                                refine my_gpI (my_pS (As := [.int 1]) (rest := [.int y3_15]) ⟨hx, hb, hml, hown, hts⟩ (va_cwS 1 hts gX9_nodes_X9_flag rfl rfl rfl (by decide +kernel) ⟨Nat.le_of_ble_eq_true rfl, Nat.le_of_ble_eq_true rfl⟩) hN hK hP [] rfl rfl hl.1 rfl (Nat.le_of_ble_eq_true rfl) dX9_nodes_73 ⟨Nat.le_of_ble_eq_true rfl, Nat.le_of_ble_eq_true rfl⟩  (k1_X9_flag l D cI cJ cK )) (fun r hp => ?_)
                                obtain rfl := hp
                                refine lv_iadd hx hb dX9_nodes_76 ?_
                                refine lv_topi (fun z_49 ez_49 => ?_)
                                try have tz_49 : z_49.toInt = y3_15.toInt + (1 : Int) := by rw [ez_49]; exact my_addI rfl (by decide +kernel) (by omega) (by omega)
                                refine lv_istore_n (lv' := [(3, .int z_49), (6, .int r_44), (5, .int (nI f)), (4, .int 64), (0, .ref m0), (1, .int m9), (2, .int 1)]) hx hb dX9_nodes_77 rfl hl (by decide) rfl (fun ls hl => ?_)
                                refine lv_iload hx hb dX9_nodes_78 (lv_at hl 2 rfl) ?_
                                refine lv_iload hx hb dX9_nodes_80 (lv_at hl 3 rfl) ?_
                                refine lv_iadd hx hb dX9_nodes_82 ?_
                                refine my_eqi (y := nI (f + 64)) (my_addN f 64) ?_
                                refine lv_istore (lv' := [(5, .int (nI (f + 64))), (3, .int z_49), (6, .int r_44), (4, .int 64), (0, .ref m0), (1, .int m9), (2, .int 1)]) hx hb dX9_nodes_83 hl (by decide) rfl (fun ls hl => ?_)
                                refine lv_goto (tgt := 15) hx hb dX9_nodes_85 (by decide) ?_
                                exact ih15  (f + 64) z_49 (by omega) (by first | assumption | omega | decide +kernel) ls (lv_sub hl [0, 3, 1, 4, 5, 6] rfl)
                    exact loop15 ((512 - 0) + 1) 0 y3_15 (Nat.lt_succ_self _) (by first | assumption | omega | decide +kernel) ls (lv_sub hl [0, 1, 2, 3, 4, 5] rfl)
                ·
                  have d20 : ((f : Nat) : Int) < (256 : Int) := my_nge c20 (nI_toInt (by omega)) (by decide +kernel)
                  refine lv_aload_n hx hb dX9_nodes_23 rfl (lv_at hl 3 rfl) ?_
                  refine lv_iconst (v := 0) hx hb dX9_nodes_24 (by decide +kernel) ?_
                  refine lv_iload hx hb dX9_nodes_25 (lv_at hl 0 rfl) ?_
                  refine lv_iload hx hb dX9_nodes_27 (lv_at hl 0 rfl) ?_
                  refine lv_iload hx hb dX9_nodes_29 (lv_at hl 1 rfl) ?_
                  refine lv_iadd hx hb dX9_nodes_31 ?_
                  refine my_eqi (y := nI (f + 128)) (my_addN f 128) ?_
                  refine lv_iconst (v := 1) hx hb dX9_nodes_32 (by decide +kernel) ?_
                  refine lv_isub hx hb dX9_nodes_33 ?_
                  refine lv_topi (fun z_50 ez_50 => ?_)
                  try have tz_50 : z_50.toInt = ((f + 128 : Nat) : Int) - (1 : Int) := by rw [ez_50]; exact my_subI (nI_toInt (by omega)) (by decide +kernel) (by omega) (by omega)
                  refine my_gpI (my_pV (As := [.int 0, .int (nI f), .int z_50]) (rest := []) (ci := 9) ⟨hx, hb, hml, hown, hts⟩ (cwV 3 hts gX9_nodes_X9_within rfl rfl rfl (by decide +kernel) ⟨Nat.le_of_ble_eq_true rfl, Nat.le_of_ble_eq_true rfl⟩) hN hK hP [0, 1] rfl 0 rfl rfl rfl rfl hl.1 rfl (Nat.le_of_ble_eq_true rfl) dX9_nodes_34 ⟨Nat.le_of_ble_eq_true rfl, Nat.le_of_ble_eq_true rfl⟩  (k0_X9_within l D cI cJ cK m0 a_row a_tape a_number a_read a_readBits a_stands a_parted a_bitsWere a_stood a_chosen a_bestChosen a_often a_sorted a_risen a_risenWays m_thrown m_told m_taped m_at m_to m_many m_readMany m_fewest m_size mf (nI f) ((f : Nat) : Int) (nI_toInt (by omega)) z_50 z_50.toInt rfl (by first | assumption | omega | decide +kernel) (by first | assumption | omega | decide +kernel) (by first | assumption | omega | decide +kernel) (by first | assumption | omega | decide +kernel) (by first | assumption | omega | decide +kernel) (by first | assumption | omega | decide +kernel) (by first | assumption | omega | decide +kernel) (by first | assumption | omega | decide +kernel))) (fun r hp => ?_)
                  obtain _ := hp
                  obtain ⟨r_51, rfl⟩ : ∃ z, z = r := ⟨_, rfl⟩
                  refine lv_istore (lv' := [(6, .int r_51), (5, .int (nI f)), (4, .int 128), (3, .int y3_15), (0, .ref m0), (1, .int m9), (2, .int 1)]) hx hb dX9_nodes_37 hl (by decide) rfl (fun ls hl => ?_)
                  refine lv_iload_n hx hb dX9_nodes_39 rfl (lv_at hl 3 rfl) ?_
                  refine lv_iload hx hb dX9_nodes_40 (lv_at hl 0 rfl) ?_
                  refine lv_iload_n hx hb dX9_nodes_42 rfl (lv_at hl 5 rfl) ?_
                  refine lv_icmp_lt (tgt := 72) hx hb dX9_nodes_43 (by decide) (fun c43 => ?_) (fun c43 => ?_)
                  ·
                    have d43 : r_51.toInt < m9.toInt := my_lt c43 rfl rfl
                    refine lv_iconst (v := 0) hx hb dX9_nodes_72 (by decide +kernel) ?_
                    refine my_gpI (my_pS (As := [.int 0]) (rest := [.int y3_15]) ⟨hx, hb, hml, hown, hts⟩ (va_cwS 1 hts gX9_nodes_X9_flag rfl rfl rfl (by decide +kernel) ⟨Nat.le_of_ble_eq_true rfl, Nat.le_of_ble_eq_true rfl⟩) hN hK hP [] rfl rfl hl.1 rfl (Nat.le_of_ble_eq_true rfl) dX9_nodes_73 ⟨Nat.le_of_ble_eq_true rfl, Nat.le_of_ble_eq_true rfl⟩  (k0_X9_flag l D cI cJ cK )) (fun r hp => ?_)
                    obtain rfl := hp
                    refine lv_iadd hx hb dX9_nodes_76 ?_
                    refine lv_topi (fun z_52 ez_52 => ?_)
                    try have tz_52 : z_52.toInt = y3_15.toInt + (0 : Int) := by rw [ez_52]; exact my_addI rfl (by decide +kernel) (by omega) (by omega)
                    refine lv_istore_n (lv' := [(3, .int z_52), (6, .int r_51), (5, .int (nI f)), (4, .int 128), (0, .ref m0), (1, .int m9), (2, .int 1)]) hx hb dX9_nodes_77 rfl hl (by decide) rfl (fun ls hl => ?_)
                    refine lv_iload hx hb dX9_nodes_78 (lv_at hl 2 rfl) ?_
                    refine lv_iload hx hb dX9_nodes_80 (lv_at hl 3 rfl) ?_
                    refine lv_iadd hx hb dX9_nodes_82 ?_
                    refine my_eqi (y := nI (f + 128)) (my_addN f 128) ?_
                    refine lv_istore (lv' := [(5, .int (nI (f + 128))), (3, .int z_52), (6, .int r_51), (4, .int 128), (0, .ref m0), (1, .int m9), (2, .int 1)]) hx hb dX9_nodes_83 hl (by decide) rfl (fun ls hl => ?_)
                    refine lv_goto (tgt := 15) hx hb dX9_nodes_85 (by decide) ?_
                    exact ih15  (f + 128) z_52 (by omega) (by first | assumption | omega | decide +kernel) ls (lv_sub hl [0, 3, 1, 4, 5, 6] rfl)
                  ·
                    have d43 : r_51.toInt ≥ m9.toInt := my_nlt c43 rfl rfl
                    refine lv_iload_n hx hb dX9_nodes_46 rfl (lv_at hl 6 rfl) ?_
                    refine lv_if_eq (tgt := 68) hx hb dX9_nodes_47 (by decide) (fun c47 => ?_) (fun c47 => ?_)
                    ·
                      exact absurd c47 (by decide +kernel)
                    ·
                      refine lv_aload_n hx hb dX9_nodes_50 rfl (lv_at hl 4 rfl) ?_
                      refine lv_iconst (v := 1) hx hb dX9_nodes_51 (by decide +kernel) ?_
                      refine lv_iload hx hb dX9_nodes_52 (lv_at hl 1 rfl) ?_
                      refine lv_iload hx hb dX9_nodes_54 (lv_at hl 1 rfl) ?_
                      refine lv_iload hx hb dX9_nodes_56 (lv_at hl 2 rfl) ?_
                      refine lv_iadd hx hb dX9_nodes_58 ?_
                      refine my_eqi (y := nI (f + 128)) (my_addN f 128) ?_
                      refine lv_iconst (v := 1) hx hb dX9_nodes_59 (by decide +kernel) ?_
                      refine lv_isub hx hb dX9_nodes_60 ?_
                      refine lv_topi (fun z_53 ez_53 => ?_)
                      try have tz_53 : z_53.toInt = ((f + 128 : Nat) : Int) - (1 : Int) := by rw [ez_53]; exact my_subI (nI_toInt (by omega)) (by decide +kernel) (by omega) (by omega)
                      refine my_gpI (my_pV (As := [.int 1, .int (nI f), .int z_53]) (rest := [.int y3_15]) (ci := 9) ⟨hx, hb, hml, hown, hts⟩ (cwV 3 hts gX9_nodes_X9_within rfl rfl rfl (by decide +kernel) ⟨Nat.le_of_ble_eq_true rfl, Nat.le_of_ble_eq_true rfl⟩) hN hK hP [0, 1] rfl 0 rfl rfl rfl rfl hl.1 rfl (Nat.le_of_ble_eq_true rfl) dX9_nodes_61 ⟨Nat.le_of_ble_eq_true rfl, Nat.le_of_ble_eq_true rfl⟩  (k1_X9_within l D cI cJ cK m0 a_row a_tape a_number a_read a_readBits a_stands a_parted a_bitsWere a_stood a_chosen a_bestChosen a_often a_sorted a_risen a_risenWays m_thrown m_told m_taped m_at m_to m_many m_readMany m_fewest m_size mf (nI f) ((f : Nat) : Int) (nI_toInt (by omega)) z_53 z_53.toInt rfl (by first | assumption | omega | decide +kernel) (by first | assumption | omega | decide +kernel) (by first | assumption | omega | decide +kernel) (by first | assumption | omega | decide +kernel) (by first | assumption | omega | decide +kernel) (by first | assumption | omega | decide +kernel) (by first | assumption | omega | decide +kernel) (by first | assumption | omega | decide +kernel))) (fun r hp => ?_)
                      obtain _ := hp
                      obtain ⟨r_54, rfl⟩ : ∃ z, z = r := ⟨_, rfl⟩
                      refine lv_iload_n hx hb dX9_nodes_64 rfl (lv_at hl 5 rfl) ?_
                      refine lv_icmp_lt (tgt := 72) hx hb dX9_nodes_65 (by decide) (fun c65 => ?_) (fun c65 => ?_)
                      ·
                        have d65 : r_54.toInt < m9.toInt := my_lt c65 rfl rfl
                        refine lv_iconst (v := 0) hx hb dX9_nodes_72 (by decide +kernel) ?_
                        refine my_gpI (my_pS (As := [.int 0]) (rest := [.int y3_15]) ⟨hx, hb, hml, hown, hts⟩ (va_cwS 1 hts gX9_nodes_X9_flag rfl rfl rfl (by decide +kernel) ⟨Nat.le_of_ble_eq_true rfl, Nat.le_of_ble_eq_true rfl⟩) hN hK hP [] rfl rfl hl.1 rfl (Nat.le_of_ble_eq_true rfl) dX9_nodes_73 ⟨Nat.le_of_ble_eq_true rfl, Nat.le_of_ble_eq_true rfl⟩  (k0_X9_flag l D cI cJ cK )) (fun r hp => ?_)
                        obtain rfl := hp
                        refine lv_iadd hx hb dX9_nodes_76 ?_
                        refine lv_topi (fun z_55 ez_55 => ?_)
                        try have tz_55 : z_55.toInt = y3_15.toInt + (0 : Int) := by rw [ez_55]; exact my_addI rfl (by decide +kernel) (by omega) (by omega)
                        refine lv_istore_n (lv' := [(3, .int z_55), (6, .int r_51), (5, .int (nI f)), (4, .int 128), (0, .ref m0), (1, .int m9), (2, .int 1)]) hx hb dX9_nodes_77 rfl hl (by decide) rfl (fun ls hl => ?_)
                        refine lv_iload hx hb dX9_nodes_78 (lv_at hl 2 rfl) ?_
                        refine lv_iload hx hb dX9_nodes_80 (lv_at hl 3 rfl) ?_
                        refine lv_iadd hx hb dX9_nodes_82 ?_
                        refine my_eqi (y := nI (f + 128)) (my_addN f 128) ?_
                        refine lv_istore (lv' := [(5, .int (nI (f + 128))), (3, .int z_55), (6, .int r_51), (4, .int 128), (0, .ref m0), (1, .int m9), (2, .int 1)]) hx hb dX9_nodes_83 hl (by decide) rfl (fun ls hl => ?_)
                        refine lv_goto (tgt := 15) hx hb dX9_nodes_85 (by decide) ?_
                        exact ih15  (f + 128) z_55 (by omega) (by first | assumption | omega | decide +kernel) ls (lv_sub hl [0, 3, 1, 4, 5, 6] rfl)
                      ·
                        have d65 : r_54.toInt ≥ m9.toInt := my_nlt c65 rfl rfl
                        refine lv_iconst (v := 1) hx hb dX9_nodes_68 (by decide +kernel) ?_
                        refine lv_goto (tgt := 73) hx hb dX9_nodes_69 (by decide) ?_
                        refine my_gpI (my_pS (As := [.int 1]) (rest := [.int y3_15]) ⟨hx, hb, hml, hown, hts⟩ (va_cwS 1 hts gX9_nodes_X9_flag rfl rfl rfl (by decide +kernel) ⟨Nat.le_of_ble_eq_true rfl, Nat.le_of_ble_eq_true rfl⟩) hN hK hP [] rfl rfl hl.1 rfl (Nat.le_of_ble_eq_true rfl) dX9_nodes_73 ⟨Nat.le_of_ble_eq_true rfl, Nat.le_of_ble_eq_true rfl⟩  (k1_X9_flag l D cI cJ cK )) (fun r hp => ?_)
                        obtain rfl := hp
                        refine lv_iadd hx hb dX9_nodes_76 ?_
                        refine lv_topi (fun z_56 ez_56 => ?_)
                        try have tz_56 : z_56.toInt = y3_15.toInt + (1 : Int) := by rw [ez_56]; exact my_addI rfl (by decide +kernel) (by omega) (by omega)
                        refine lv_istore_n (lv' := [(3, .int z_56), (6, .int r_51), (5, .int (nI f)), (4, .int 128), (0, .ref m0), (1, .int m9), (2, .int 1)]) hx hb dX9_nodes_77 rfl hl (by decide) rfl (fun ls hl => ?_)
                        refine lv_iload hx hb dX9_nodes_78 (lv_at hl 2 rfl) ?_
                        refine lv_iload hx hb dX9_nodes_80 (lv_at hl 3 rfl) ?_
                        refine lv_iadd hx hb dX9_nodes_82 ?_
                        refine my_eqi (y := nI (f + 128)) (my_addN f 128) ?_
                        refine lv_istore (lv' := [(5, .int (nI (f + 128))), (3, .int z_56), (6, .int r_51), (4, .int 128), (0, .ref m0), (1, .int m9), (2, .int 1)]) hx hb dX9_nodes_83 hl (by decide) rfl (fun ls hl => ?_)
                        refine lv_goto (tgt := 15) hx hb dX9_nodes_85 (by decide) ?_
                        exact ih15  (f + 128) z_56 (by omega) (by first | assumption | omega | decide +kernel) ls (lv_sub hl [0, 3, 1, 4, 5, 6] rfl)
            exact loop15 ((512 - 0) + 1) 0 y3_15 (Nat.lt_succ_self _) (by first | assumption | omega | decide +kernel) ls (lv_sub hl [0, 1, 2, 3, 4, 5] rfl)
        ·
          have d20 : ((f : Nat) : Int) < (256 : Int) := my_nge c20 (nI_toInt (by omega)) (by decide +kernel)
          refine lv_aload_n hx hb dX9_nodes_23 rfl (lv_at hl 3 rfl) ?_
          refine lv_iconst (v := 0) hx hb dX9_nodes_24 (by decide +kernel) ?_
          refine lv_iload hx hb dX9_nodes_25 (lv_at hl 0 rfl) ?_
          refine lv_iload hx hb dX9_nodes_27 (lv_at hl 0 rfl) ?_
          refine lv_iload hx hb dX9_nodes_29 (lv_at hl 1 rfl) ?_
          refine lv_iadd hx hb dX9_nodes_31 ?_
          refine my_eqi (y := nI (f + 256)) (my_addN f 256) ?_
          refine lv_iconst (v := 1) hx hb dX9_nodes_32 (by decide +kernel) ?_
          refine lv_isub hx hb dX9_nodes_33 ?_
          refine lv_topi (fun z_57 ez_57 => ?_)
          try have tz_57 : z_57.toInt = ((f + 256 : Nat) : Int) - (1 : Int) := by rw [ez_57]; exact my_subI (nI_toInt (by omega)) (by decide +kernel) (by omega) (by omega)
          refine my_gpI (my_pV (As := [.int 0, .int (nI f), .int z_57]) (rest := []) (ci := 9) ⟨hx, hb, hml, hown, hts⟩ (cwV 3 hts gX9_nodes_X9_within rfl rfl rfl (by decide +kernel) ⟨Nat.le_of_ble_eq_true rfl, Nat.le_of_ble_eq_true rfl⟩) hN hK hP [0, 1] rfl 0 rfl rfl rfl rfl hl.1 rfl (Nat.le_of_ble_eq_true rfl) dX9_nodes_34 ⟨Nat.le_of_ble_eq_true rfl, Nat.le_of_ble_eq_true rfl⟩  (k0_X9_within l D cI cJ cK m0 a_row a_tape a_number a_read a_readBits a_stands a_parted a_bitsWere a_stood a_chosen a_bestChosen a_often a_sorted a_risen a_risenWays m_thrown m_told m_taped m_at m_to m_many m_readMany m_fewest m_size mf (nI f) ((f : Nat) : Int) (nI_toInt (by omega)) z_57 z_57.toInt rfl (by first | assumption | omega | decide +kernel) (by first | assumption | omega | decide +kernel) (by first | assumption | omega | decide +kernel) (by first | assumption | omega | decide +kernel) (by first | assumption | omega | decide +kernel) (by first | assumption | omega | decide +kernel) (by first | assumption | omega | decide +kernel) (by first | assumption | omega | decide +kernel))) (fun r hp => ?_)
          obtain _ := hp
          obtain ⟨r_58, rfl⟩ : ∃ z, z = r := ⟨_, rfl⟩
          refine lv_istore (lv' := [(6, .int r_58), (5, .int (nI f)), (4, .int 256), (3, .int y3_15), (0, .ref m0), (1, .int m9), (2, .int 1)]) hx hb dX9_nodes_37 hl (by decide) rfl (fun ls hl => ?_)
          refine lv_iload_n hx hb dX9_nodes_39 rfl (lv_at hl 3 rfl) ?_
          refine lv_iload hx hb dX9_nodes_40 (lv_at hl 0 rfl) ?_
          refine lv_iload_n hx hb dX9_nodes_42 rfl (lv_at hl 5 rfl) ?_
          refine lv_icmp_lt (tgt := 72) hx hb dX9_nodes_43 (by decide) (fun c43 => ?_) (fun c43 => ?_)
          ·
            have d43 : r_58.toInt < m9.toInt := my_lt c43 rfl rfl
            refine lv_iconst (v := 0) hx hb dX9_nodes_72 (by decide +kernel) ?_
            refine my_gpI (my_pS (As := [.int 0]) (rest := [.int y3_15]) ⟨hx, hb, hml, hown, hts⟩ (va_cwS 1 hts gX9_nodes_X9_flag rfl rfl rfl (by decide +kernel) ⟨Nat.le_of_ble_eq_true rfl, Nat.le_of_ble_eq_true rfl⟩) hN hK hP [] rfl rfl hl.1 rfl (Nat.le_of_ble_eq_true rfl) dX9_nodes_73 ⟨Nat.le_of_ble_eq_true rfl, Nat.le_of_ble_eq_true rfl⟩  (k0_X9_flag l D cI cJ cK )) (fun r hp => ?_)
            obtain rfl := hp
            refine lv_iadd hx hb dX9_nodes_76 ?_
            refine lv_topi (fun z_59 ez_59 => ?_)
            try have tz_59 : z_59.toInt = y3_15.toInt + (0 : Int) := by rw [ez_59]; exact my_addI rfl (by decide +kernel) (by omega) (by omega)
            refine lv_istore_n (lv' := [(3, .int z_59), (6, .int r_58), (5, .int (nI f)), (4, .int 256), (0, .ref m0), (1, .int m9), (2, .int 1)]) hx hb dX9_nodes_77 rfl hl (by decide) rfl (fun ls hl => ?_)
            refine lv_iload hx hb dX9_nodes_78 (lv_at hl 2 rfl) ?_
            refine lv_iload hx hb dX9_nodes_80 (lv_at hl 3 rfl) ?_
            refine lv_iadd hx hb dX9_nodes_82 ?_
            refine my_eqi (y := nI (f + 256)) (my_addN f 256) ?_
            refine lv_istore (lv' := [(5, .int (nI (f + 256))), (3, .int z_59), (6, .int r_58), (4, .int 256), (0, .ref m0), (1, .int m9), (2, .int 1)]) hx hb dX9_nodes_83 hl (by decide) rfl (fun ls hl => ?_)
            refine lv_goto (tgt := 15) hx hb dX9_nodes_85 (by decide) ?_
            exact ih15  (f + 256) z_59 (by omega) (by first | assumption | omega | decide +kernel) ls (lv_sub hl [0, 3, 1, 4, 5, 6] rfl)
          ·
            have d43 : r_58.toInt ≥ m9.toInt := my_nlt c43 rfl rfl
            refine lv_iload_n hx hb dX9_nodes_46 rfl (lv_at hl 6 rfl) ?_
            refine lv_if_eq (tgt := 68) hx hb dX9_nodes_47 (by decide) (fun c47 => ?_) (fun c47 => ?_)
            ·
              exact absurd c47 (by decide +kernel)
            ·
              refine lv_aload_n hx hb dX9_nodes_50 rfl (lv_at hl 4 rfl) ?_
              refine lv_iconst (v := 1) hx hb dX9_nodes_51 (by decide +kernel) ?_
              refine lv_iload hx hb dX9_nodes_52 (lv_at hl 1 rfl) ?_
              refine lv_iload hx hb dX9_nodes_54 (lv_at hl 1 rfl) ?_
              refine lv_iload hx hb dX9_nodes_56 (lv_at hl 2 rfl) ?_
              refine lv_iadd hx hb dX9_nodes_58 ?_
              refine my_eqi (y := nI (f + 256)) (my_addN f 256) ?_
              refine lv_iconst (v := 1) hx hb dX9_nodes_59 (by decide +kernel) ?_
              refine lv_isub hx hb dX9_nodes_60 ?_
              refine lv_topi (fun z_60 ez_60 => ?_)
              try have tz_60 : z_60.toInt = ((f + 256 : Nat) : Int) - (1 : Int) := by rw [ez_60]; exact my_subI (nI_toInt (by omega)) (by decide +kernel) (by omega) (by omega)
              refine my_gpI (my_pV (As := [.int 1, .int (nI f), .int z_60]) (rest := [.int y3_15]) (ci := 9) ⟨hx, hb, hml, hown, hts⟩ (cwV 3 hts gX9_nodes_X9_within rfl rfl rfl (by decide +kernel) ⟨Nat.le_of_ble_eq_true rfl, Nat.le_of_ble_eq_true rfl⟩) hN hK hP [0, 1] rfl 0 rfl rfl rfl rfl hl.1 rfl (Nat.le_of_ble_eq_true rfl) dX9_nodes_61 ⟨Nat.le_of_ble_eq_true rfl, Nat.le_of_ble_eq_true rfl⟩  (k1_X9_within l D cI cJ cK m0 a_row a_tape a_number a_read a_readBits a_stands a_parted a_bitsWere a_stood a_chosen a_bestChosen a_often a_sorted a_risen a_risenWays m_thrown m_told m_taped m_at m_to m_many m_readMany m_fewest m_size mf (nI f) ((f : Nat) : Int) (nI_toInt (by omega)) z_60 z_60.toInt rfl (by first | assumption | omega | decide +kernel) (by first | assumption | omega | decide +kernel) (by first | assumption | omega | decide +kernel) (by first | assumption | omega | decide +kernel) (by first | assumption | omega | decide +kernel) (by first | assumption | omega | decide +kernel) (by first | assumption | omega | decide +kernel) (by first | assumption | omega | decide +kernel))) (fun r hp => ?_)
              obtain _ := hp
              obtain ⟨r_61, rfl⟩ : ∃ z, z = r := ⟨_, rfl⟩
              refine lv_iload_n hx hb dX9_nodes_64 rfl (lv_at hl 5 rfl) ?_
              refine lv_icmp_lt (tgt := 72) hx hb dX9_nodes_65 (by decide) (fun c65 => ?_) (fun c65 => ?_)
              ·
                have d65 : r_61.toInt < m9.toInt := my_lt c65 rfl rfl
                refine lv_iconst (v := 0) hx hb dX9_nodes_72 (by decide +kernel) ?_
                refine my_gpI (my_pS (As := [.int 0]) (rest := [.int y3_15]) ⟨hx, hb, hml, hown, hts⟩ (va_cwS 1 hts gX9_nodes_X9_flag rfl rfl rfl (by decide +kernel) ⟨Nat.le_of_ble_eq_true rfl, Nat.le_of_ble_eq_true rfl⟩) hN hK hP [] rfl rfl hl.1 rfl (Nat.le_of_ble_eq_true rfl) dX9_nodes_73 ⟨Nat.le_of_ble_eq_true rfl, Nat.le_of_ble_eq_true rfl⟩  (k0_X9_flag l D cI cJ cK )) (fun r hp => ?_)
                obtain rfl := hp
                refine lv_iadd hx hb dX9_nodes_76 ?_
                refine lv_topi (fun z_62 ez_62 => ?_)
                try have tz_62 : z_62.toInt = y3_15.toInt + (0 : Int) := by rw [ez_62]; exact my_addI rfl (by decide +kernel) (by omega) (by omega)
                refine lv_istore_n (lv' := [(3, .int z_62), (6, .int r_58), (5, .int (nI f)), (4, .int 256), (0, .ref m0), (1, .int m9), (2, .int 1)]) hx hb dX9_nodes_77 rfl hl (by decide) rfl (fun ls hl => ?_)
                refine lv_iload hx hb dX9_nodes_78 (lv_at hl 2 rfl) ?_
                refine lv_iload hx hb dX9_nodes_80 (lv_at hl 3 rfl) ?_
                refine lv_iadd hx hb dX9_nodes_82 ?_
                refine my_eqi (y := nI (f + 256)) (my_addN f 256) ?_
                refine lv_istore (lv' := [(5, .int (nI (f + 256))), (3, .int z_62), (6, .int r_58), (4, .int 256), (0, .ref m0), (1, .int m9), (2, .int 1)]) hx hb dX9_nodes_83 hl (by decide) rfl (fun ls hl => ?_)
                refine lv_goto (tgt := 15) hx hb dX9_nodes_85 (by decide) ?_
                exact ih15  (f + 256) z_62 (by omega) (by first | assumption | omega | decide +kernel) ls (lv_sub hl [0, 3, 1, 4, 5, 6] rfl)
              ·
                have d65 : r_61.toInt ≥ m9.toInt := my_nlt c65 rfl rfl
                refine lv_iconst (v := 1) hx hb dX9_nodes_68 (by decide +kernel) ?_
                refine lv_goto (tgt := 73) hx hb dX9_nodes_69 (by decide) ?_
                refine my_gpI (my_pS (As := [.int 1]) (rest := [.int y3_15]) ⟨hx, hb, hml, hown, hts⟩ (va_cwS 1 hts gX9_nodes_X9_flag rfl rfl rfl (by decide +kernel) ⟨Nat.le_of_ble_eq_true rfl, Nat.le_of_ble_eq_true rfl⟩) hN hK hP [] rfl rfl hl.1 rfl (Nat.le_of_ble_eq_true rfl) dX9_nodes_73 ⟨Nat.le_of_ble_eq_true rfl, Nat.le_of_ble_eq_true rfl⟩  (k1_X9_flag l D cI cJ cK )) (fun r hp => ?_)
                obtain rfl := hp
                refine lv_iadd hx hb dX9_nodes_76 ?_
                refine lv_topi (fun z_63 ez_63 => ?_)
                try have tz_63 : z_63.toInt = y3_15.toInt + (1 : Int) := by rw [ez_63]; exact my_addI rfl (by decide +kernel) (by omega) (by omega)
                refine lv_istore_n (lv' := [(3, .int z_63), (6, .int r_58), (5, .int (nI f)), (4, .int 256), (0, .ref m0), (1, .int m9), (2, .int 1)]) hx hb dX9_nodes_77 rfl hl (by decide) rfl (fun ls hl => ?_)
                refine lv_iload hx hb dX9_nodes_78 (lv_at hl 2 rfl) ?_
                refine lv_iload hx hb dX9_nodes_80 (lv_at hl 3 rfl) ?_
                refine lv_iadd hx hb dX9_nodes_82 ?_
                refine my_eqi (y := nI (f + 256)) (my_addN f 256) ?_
                refine lv_istore (lv' := [(5, .int (nI (f + 256))), (3, .int z_63), (6, .int r_58), (4, .int 256), (0, .ref m0), (1, .int m9), (2, .int 1)]) hx hb dX9_nodes_83 hl (by decide) rfl (fun ls hl => ?_)
                refine lv_goto (tgt := 15) hx hb dX9_nodes_85 (by decide) ?_
                exact ih15  (f + 256) z_63 (by omega) (by first | assumption | omega | decide +kernel) ls (lv_sub hl [0, 3, 1, 4, 5, 6] rfl)
    have ec_64 : (0 : Int32).toInt = 0 := by decide +kernel
    exact loop15 ((512 - 0) + 1) 0 (0 : Int32) (Nat.lt_succ_self _) (by first | assumption | omega | decide +kernel) ls (lv_sub hl [0, 1, 2, 3, 4, 5] rfl)
