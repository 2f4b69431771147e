abbrev wl_k_X4_readBits (cI cJ cK : ClassId) (xq : Nat) (q1 : Nat) (xt : Nat) (t1 : Nat) (v0_ : Int32) (v1_ : Nat → Int64) (v2_ : Int32) (v3_ : Nat → Int32) : va_W := [(xq, .inr (4, [.ref q1, .int v0_])), (q1, .inl (cJ, 8, .inr (.inl v1_))), (xt, .inr (5, [.ref t1, .int v2_])), (t1, .inl (cI, 100, .inl v3_))]
set_option maxHeartbeats 4000000 in
set_option maxRecDepth 100000 in
theorem k_X4_readBits (l : Launch) (D : va_G) (cI cJ cK : ClassId) (xq : Nat) (q1 : Nat) (xt : Nat) (t1 : Nat) (qw : Nat) (qb : Nat → Int64) (tz : Nat) (tf : Nat → Int32) (b9 : Nat) (lv : Nat) (mo : Nat) (hz_qw : qw ≤ 11) (hz_tz : tz ≤ 100) (hR_tf : RB 0 255 tf) (hb9 : b9 ≤ 200) (hlv : lv < 8) (hm : mo ≤ 11) : ctI l yX4_readBits wsX4_readBits ({ frames := 1, cells := 0, slots := 0, locals := 60 } : Room) D (tyIJ cI cJ cK) [.ref xq, .ref xt, .int (nI b9), .int (nI lv), .int (nI mo)] (wl_k_X4_readBits cI cJ cK xq q1 xt t1 (nI qw) qb (nI tz) tf) (fun (r : Int32) (u : va_W) => ∃ (k' : Nat) (qb' : Nat → Int64), u = (wl_k_X4_readBits cI cJ cK xq q1 xt t1 (nI qw) qb' (nI tz) tf) ∧ r = nI k' ∧ k' ≤ mo ∧ k' = blen tf tz mo b9 ∧ qb' lv = lN (bv tf b9 k') ∧ (∀ j, j ≠ lv → qb' j = qb j)) := by
  refine ctI.of (cc := cX4_readBits) (maxL := 6) (ret := (some .int)) (by decide) rfl (Nat.le_of_ble_eq_true rfl) ?_
  intro p e s m below meth c ls A hx hb hr hts hown hml hlocks hname hA hK hN hP hD hS hl
  have hl : lv_has ls 6 [(0, .ref xq), (1, .ref xt), (2, .int (nI b9)), (3, .int (nI lv)), (4, .int (nI mo))] := hl
  have hown : s.vm.findClass RX4 = some m.cls := hown
  have hi4 : ∀ w ∈ u_ws RX4 TX4 2, w ∈ wsX4_readBits := by decide +kernel
  have fl9 := hts (.fieldLink RX4 9 "PlaneColumn$PlaneReader" "bits" "[J") (by decide +kernel)
  refine lv_aload_n hx hb dX4_readBits_0 rfl (lv_at hl 0 rfl) ?_
  refine va_get (ci := 4) (v := .ref q1) (C := RX4) (T := TX4) (N := 2) hx hb hts hi4 hown hK hP 0 rfl rfl 0 (by decide) fl9 (fun _ h9 => h9) rfl dX4_readBits_1 ?_
  refine lv_iload_n hx hb dX4_readBits_4 rfl (lv_at hl 3 rfl) ?_
  refine lv_lconst (v := 0) hx hb dX4_readBits_5 (by decide +kernel) ?_
  refine va_last hx hb hK hP hD hS 1 1 rfl rfl (vp_in_nI (by omega) (by omega)) dX4_readBits_6 (fun H locs hP hD hS => ?_)
  obtain ⟨g_1, eg_1⟩ : ∃ g : Nat → Int64, g = vp_updL qb lv 0 := ⟨_, rfl⟩
  have eU : vp_updL qb (nI lv : Int32).toNatClampNeg 0 = g_1 := by rw [eg_1, show (nI lv : Int32).toNatClampNeg = lv from nI_clamp (by omega)]
  rw [eU] at hP hD
  have hP : va_P D vwCl (wl_k_X4_readBits cI cJ cK xq q1 xt t1 (nI qw) g_1 (nI tz) tf) H := hP
  have hD : va_D A (wl_k_X4_readBits cI cJ cK xq q1 xt t1 (nI qw) g_1 (nI tz) tf) := hD
  refine lv_iconst (v := 0) hx hb dX4_readBits_7 (by decide +kernel) ?_
  refine lv_istore (lv' := [(5, .int 0), (0, .ref xq), (1, .ref xt), (2, .int (nI b9)), (3, .int (nI lv)), (4, .int (nI mo))]) hx hb dX4_readBits_8 hl (by decide) rfl (fun ls hl => ?_)
  have loop10 : ∀ (n9 : Nat) (k : Nat) (q1_10 : Nat → Int64), mo - k < n9 → (k ≤ mo) → (blen tf tz mo b9 = k + blen tf tz (mo - k) (b9 + k)) → (q1_10 lv = lN (bv tf b9 k)) → (∀ j, j ≠ lv → q1_10 j = qb j) → ∀ (H : Heap) (locs : List Loc) (ls : Array Slot), va_P D vwCl (wl_k_X4_readBits cI cJ cK xq q1 xt t1 (nI qw) q1_10 (nI tz) tf) H → va_D A (wl_k_X4_readBits cI cJ cK xq q1 xt t1 (nI qw) q1_10 (nI tz) tf) → va_S A s.heap H locs → lv_has ls 6 [(5, .int (nI k)), (0, .ref xq), (1, .ref xt), (2, .int (nI b9)), (3, .int (nI lv)), (4, .int (nI mo))] → W p l e ({ frames := 1, cells := 0, slots := 0, locals := 60 } : Room) s m [.ref xq, .ref xt, .int (nI b9), .int (nI lv), .int (nI mo)].toArray below meth c H locs 0 0 (MQ below (va_Qi (fun (r : Int32) (u : va_W) => ∃ (k' : Nat) (qb' : Nat → Int64), u = (wl_k_X4_readBits cI cJ cK xq q1 xt t1 (nI qw) qb' (nI tz) tf) ∧ r = nI k' ∧ k' ≤ mo ∧ k' = blen tf tz mo b9 ∧ qb' lv = lN (bv tf b9 k') ∧ (∀ j, j ≠ lv → qb' j = qb j)) (my_B D (tyIJ cI cJ cK) A) A) [.ref xq, .ref xt, .int (nI b9), .int (nI lv), .int (nI mo)].toArray s 0 0 A) (F0 m 10 ls []) := by
    intro n9
    induction n9 with
    | zero =>
      intro k q1_10 hn9
      exact absurd hn9 (Nat.not_lt_zero _)
    | succ n9 ih10 =>
      intro k q1_10 hn9 hk_k hbl hq1 hq2 H locs ls hP hD hS hl
      refine lv_iload hx hb dX4_readBits_10 (lv_at hl 0 rfl) ?_
      refine lv_iload hx hb dX4_readBits_12 (lv_at hl 5 rfl) ?_
      refine lv_icmp_ge (tgt := 61) hx hb dX4_readBits_14 (by decide) (fun c14 => ?_) (fun c14 => ?_)
      ·
        have d14 : ((k : Nat) : Int) ≥ ((mo : Nat) : Int) := my_ge c14 (nI_toInt (by omega)) (nI_toInt (by omega))
        have hex := bl_exit (f := tf) (n := tz) (m := mo) (k := k) (a := b9 + k) (by first | (left; omega) | (right; exact bitS_no (by omega)))
        refine lv_iload hx hb dX4_readBits_61 (lv_at hl 0 rfl) ?_
        exact my_retI hx hb hr hlocks hK hS (wl_k_X4_readBits cI cJ cK xq q1 xt t1 (nI qw) q1_10 (nI tz) tf) hP hD (⟨k, q1_10, rfl, rfl, (by first | assumption | omega | trivial | decide +kernel), (by first | assumption | omega | trivial | decide +kernel), hq1, hq2⟩) dX4_readBits_63
      ·
        have d14 : ((k : Nat) : Int) < ((mo : Nat) : Int) := my_nge c14 (nI_toInt (by omega)) (nI_toInt (by omega))
        refine lv_aload_n hx hb dX4_readBits_17 rfl (lv_at hl 2 rfl) ?_
        refine lv_iload_n hx hb dX4_readBits_18 rfl (lv_at hl 3 rfl) ?_
        refine lv_iload hx hb dX4_readBits_19 (lv_at hl 0 rfl) ?_
        refine lv_iadd hx hb dX4_readBits_21 ?_
        refine my_eqi (y := nI (b9 + k)) (nI_add _ _) ?_
        refine my_gpI (my_pV (As := [.int (nI (b9 + k))]) (rest := []) (ci := 5) ⟨hx, hb, hml, hown, hts⟩ (cwV 1 hts gX4_readBits_X5_at rfl rfl rfl (by decide +kernel) ⟨Nat.le_of_ble_eq_true rfl, Nat.le_of_ble_eq_true rfl⟩) hN hK hP [2, 3] rfl 2 rfl rfl rfl rfl hl.1 rfl (Nat.le_of_ble_eq_true rfl) dX4_readBits_22 ⟨Nat.le_of_ble_eq_true rfl, Nat.le_of_ble_eq_true rfl⟩  (k_X5_at l D cI cJ cK xt t1 tz tf (b9 + k) (by first | assumption | omega | decide +kernel) hR_tf (by first | assumption | omega | decide +kernel))) (fun r hp => ?_)
        rcases hp with ⟨rfl, ha_2⟩ | ⟨rfl, ha_3⟩
        ·
          refine my_gpI (my_pS (As := [.int (tf (b9 + k))]) (rest := []) ⟨hx, hb, hml, hown, hts⟩ (va_cwS 1 hts gX4_readBits_X4_isBit rfl rfl rfl (by decide +kernel) ⟨Nat.le_of_ble_eq_true rfl, Nat.le_of_ble_eq_true rfl⟩) hN hK hP [] rfl rfl hl.1 rfl (Nat.le_of_ble_eq_true rfl) dX4_readBits_25 ⟨Nat.le_of_ble_eq_true rfl, Nat.le_of_ble_eq_true rfl⟩  (k_X4_isBit l D cI cJ cK (tf (b9 + k)) ((tf (b9 + k)).toInt) rfl)) (fun r hp => ?_)
          rcases hp with ⟨rfl, ha_4, hb_5⟩ | ⟨rfl, ho_6⟩
          ·
            refine lv_if_eq (tgt := 61) hx hb dX4_readBits_28 (by decide) (fun c28 => ?_) (fun c28 => ?_)
            ·
              exact absurd c28 (by decide +kernel)
            ·
              refine lv_aload_n hx hb dX4_readBits_31 rfl (lv_at hl 1 rfl) ?_
              refine va_get (ci := 4) (v := .ref q1) (C := RX4) (T := TX4) (N := 2) hx hb hts hi4 hown hK hP 0 rfl rfl 0 (by decide) fl9 (fun _ h9 => h9) rfl dX4_readBits_32 ?_
              refine lv_iload_n hx hb dX4_readBits_35 rfl (lv_at hl 4 rfl) ?_
              refine lv_dup2_11 hx hb dX4_readBits_36 rfl rfl ?_
              refine va_lald hx hb hK hP 1 1 rfl rfl (vp_in_nI (by omega) (by omega)) dX4_readBits_37 ?_
              refine my_eql (y := lN (bv tf b9 k)) ((congrArg q1_10 (nI_clamp (by omega))).trans hq1) ?_
              refine lv_aload_n hx hb dX4_readBits_38 rfl (lv_at hl 2 rfl) ?_
              refine lv_iload_n hx hb dX4_readBits_39 rfl (lv_at hl 3 rfl) ?_
              refine lv_iload hx hb dX4_readBits_40 (lv_at hl 0 rfl) ?_
              refine lv_iadd hx hb dX4_readBits_42 ?_
              refine my_eqi (y := nI (b9 + k)) (nI_add _ _) ?_
              refine my_gpI (my_pV (As := [.int (nI (b9 + k))]) (rest := [.long (lN (bv tf b9 k)), .int (nI lv), .ref q1]) (ci := 5) ⟨hx, hb, hml, hown, hts⟩ (cwV 1 hts gX4_readBits_X5_at rfl rfl rfl (by decide +kernel) ⟨Nat.le_of_ble_eq_true rfl, Nat.le_of_ble_eq_true rfl⟩) hN hK hP [2, 3] rfl 2 rfl rfl rfl rfl hl.1 rfl (Nat.le_of_ble_eq_true rfl) dX4_readBits_43 ⟨Nat.le_of_ble_eq_true rfl, Nat.le_of_ble_eq_true rfl⟩  (k_X5_at l D cI cJ cK xt t1 tz tf (b9 + k) (by first | assumption | omega | decide +kernel) hR_tf (by first | assumption | omega | decide +kernel))) (fun r hp => ?_)
              rcases hp with ⟨rfl, ha_7⟩ | ⟨rfl, ha_8⟩
              ·
                refine lv_bipush (v := 48) hx hb dX4_readBits_46 (by decide +kernel) ?_
                refine lv_isub hx hb dX4_readBits_48 ?_
                refine lv_topi (fun z_9 ez_9 => ?_)
                try have tz_9 : z_9.toInt = (tf (b9 + k)).toInt - (48 : Int) := by rw [ez_9]; exact my_subI rfl (by decide +kernel) (by omega) (by omega)
                obtain ⟨w_10, ew_10, hw_10⟩ : ∃ w : Nat, z_9 = nI w ∧ (w : Int) = (z_9 : Int32).toInt := my_natE (by omega)
                refine my_eqi (y := nI w_10) ew_10 ?_
                refine lv_i2l (v := lN w_10) hx hb dX4_readBits_49 (nI_l (by omega)) ?_
                refine lv_iload hx hb dX4_readBits_50 (lv_at hl 0 rfl) ?_
                refine lv_lshl (v := lN (w_10 * 2 ^ k)) hx hb dX4_readBits_52 (shl_w w_10 (by omega) k (by omega)) ?_
                refine lv_lor hx hb dX4_readBits_53 ?_
                refine my_eql (y := lN (bv tf b9 (k + 1))) (bv_or (by omega) (by omega) (by omega)) ?_
                refine va_last hx hb hK hP hD hS 1 1 rfl rfl (vp_in_nI (by omega) (by omega)) dX4_readBits_54 (fun H locs hP hD hS => ?_)
                obtain ⟨g_11, eg_11⟩ : ∃ g : Nat → Int64, g = vp_updL q1_10 lv (lN (bv tf b9 (k + 1))) := ⟨_, rfl⟩
                have eU : vp_updL q1_10 (nI lv : Int32).toNatClampNeg (lN (bv tf b9 (k + 1))) = g_11 := by rw [eg_11, show (nI lv : Int32).toNatClampNeg = lv from nI_clamp (by omega)]
                rw [eU] at hP hD
                have hP : va_P D vwCl (wl_k_X4_readBits cI cJ cK xq q1 xt t1 (nI qw) g_11 (nI tz) tf) H := hP
                have hD : va_D A (wl_k_X4_readBits cI cJ cK xq q1 xt t1 (nI qw) g_11 (nI tz) tf) := hD
                refine lv_iinc (v := nI (k + 1)) (lv' := [(5, .int (nI (k + 1))), (0, .ref xq), (1, .ref xt), (2, .int (nI b9)), (3, .int (nI lv)), (4, .int (nI mo))]) hx hb dX4_readBits_55 hl (k := 0) rfl (my_incN k 1 (by decide +kernel)) (by decide) rfl (fun ls hl => ?_)
                refine lv_goto (tgt := 10) hx hb dX4_readBits_58 (by decide) ?_
                exact ih10  (k + 1) g_11 (by omega) (by first | assumption | omega | decide +kernel) (by have h9 := bl_yes (f := tf) (n := tz) (m := mo) (k := k) (a := b9 + k) (by omega) (bitS_iff.mpr ⟨by omega, by omega, by omega⟩); rw [show b9 + (k + 1) = b9 + k + 1 from rfl]; omega) (by first | exact updL_s (by assumption) | (exfalso; omega)) (fun j h => (updL_o (by assumption) h).trans (hq2 j h)) _ _ ls hP hD hS (lv_sub hl [0, 1, 2, 3, 4, 5] rfl)
              ·
                exfalso; omega
          ·
            refine lv_if_eq (tgt := 61) hx hb dX4_readBits_28 (by decide) (fun c28 => ?_) (fun c28 => ?_)
            ·
              have hex := bl_exit (f := tf) (n := tz) (m := mo) (k := k) (a := b9 + k) (by first | (left; omega) | (right; exact bitS_no (by omega)))
              refine lv_iload hx hb dX4_readBits_61 (lv_at hl 0 rfl) ?_
              exact my_retI hx hb hr hlocks hK hS (wl_k_X4_readBits cI cJ cK xq q1 xt t1 (nI qw) q1_10 (nI tz) tf) hP hD (⟨k, q1_10, rfl, rfl, (by first | assumption | omega | trivial | decide +kernel), (by first | assumption | omega | trivial | decide +kernel), hq1, hq2⟩) dX4_readBits_63
            ·
              exact absurd c28 (by decide +kernel)
        ·
          refine my_gpI (my_pS (As := [.int (-1)]) (rest := []) ⟨hx, hb, hml, hown, hts⟩ (va_cwS 1 hts gX4_readBits_X4_isBit rfl rfl rfl (by decide +kernel) ⟨Nat.le_of_ble_eq_true rfl, Nat.le_of_ble_eq_true rfl⟩) hN hK hP [] rfl rfl hl.1 rfl (Nat.le_of_ble_eq_true rfl) dX4_readBits_25 ⟨Nat.le_of_ble_eq_true rfl, Nat.le_of_ble_eq_true rfl⟩  (k_X4_isBit l D cI cJ cK (-1 : Int32) (-1 : Int) (by decide +kernel))) (fun r hp => ?_)
          rcases hp with ⟨rfl, ha_12, hb_13⟩ | ⟨rfl, ho_14⟩
          ·
            refine lv_if_eq (tgt := 61) hx hb dX4_readBits_28 (by decide) (fun c28 => ?_) (fun c28 => ?_)
            ·
              exact absurd c28 (by decide +kernel)
            ·
              refine lv_aload_n hx hb dX4_readBits_31 rfl (lv_at hl 1 rfl) ?_
              refine va_get (ci := 4) (v := .ref q1) (C := RX4) (T := TX4) (N := 2) hx hb hts hi4 hown hK hP 0 rfl rfl 0 (by decide) fl9 (fun _ h9 => h9) rfl dX4_readBits_32 ?_
              refine lv_iload_n hx hb dX4_readBits_35 rfl (lv_at hl 4 rfl) ?_
              refine lv_dup2_11 hx hb dX4_readBits_36 rfl rfl ?_
              refine va_lald hx hb hK hP 1 1 rfl rfl (vp_in_nI (by omega) (by omega)) dX4_readBits_37 ?_
              refine my_eql (y := lN (bv tf b9 k)) ((congrArg q1_10 (nI_clamp (by omega))).trans hq1) ?_
              refine lv_aload_n hx hb dX4_readBits_38 rfl (lv_at hl 2 rfl) ?_
              refine lv_iload_n hx hb dX4_readBits_39 rfl (lv_at hl 3 rfl) ?_
              refine lv_iload hx hb dX4_readBits_40 (lv_at hl 0 rfl) ?_
              refine lv_iadd hx hb dX4_readBits_42 ?_
              refine my_eqi (y := nI (b9 + k)) (nI_add _ _) ?_
              refine my_gpI (my_pV (As := [.int (nI (b9 + k))]) (rest := [.long (lN (bv tf b9 k)), .int (nI lv), .ref q1]) (ci := 5) ⟨hx, hb, hml, hown, hts⟩ (cwV 1 hts gX4_readBits_X5_at rfl rfl rfl (by decide +kernel) ⟨Nat.le_of_ble_eq_true rfl, Nat.le_of_ble_eq_true rfl⟩) hN hK hP [2, 3] rfl 2 rfl rfl rfl rfl hl.1 rfl (Nat.le_of_ble_eq_true rfl) dX4_readBits_43 ⟨Nat.le_of_ble_eq_true rfl, Nat.le_of_ble_eq_true rfl⟩  (k_X5_at l D cI cJ cK xt t1 tz tf (b9 + k) (by first | assumption | omega | decide +kernel) hR_tf (by first | assumption | omega | decide +kernel))) (fun r hp => ?_)
              rcases hp with ⟨rfl, ha_15⟩ | ⟨rfl, ha_16⟩
              ·
                refine lv_bipush (v := 48) hx hb dX4_readBits_46 (by decide +kernel) ?_
                refine lv_isub hx hb dX4_readBits_48 ?_
                refine lv_topi (fun z_17 ez_17 => ?_)
                try have tz_17 : z_17.toInt = (tf (b9 + k)).toInt - (48 : Int) := by rw [ez_17]; exact my_subI rfl (by decide +kernel) (by omega) (by omega)
                obtain ⟨w_18, ew_18, hw_18⟩ : ∃ w : Nat, z_17 = nI w ∧ (w : Int) = (z_17 : Int32).toInt := my_natE (by omega)
                refine my_eqi (y := nI w_18) ew_18 ?_
                refine lv_i2l (v := lN w_18) hx hb dX4_readBits_49 (nI_l (by omega)) ?_
                refine lv_iload hx hb dX4_readBits_50 (lv_at hl 0 rfl) ?_
                refine lv_lshl (v := lN (w_18 * 2 ^ k)) hx hb dX4_readBits_52 (shl_w w_18 (by omega) k (by omega)) ?_
                refine lv_lor hx hb dX4_readBits_53 ?_
                refine my_eql (y := lN (bv tf b9 (k + 1))) (bv_or (by omega) (by omega) (by omega)) ?_
                refine va_last hx hb hK hP hD hS 1 1 rfl rfl (vp_in_nI (by omega) (by omega)) dX4_readBits_54 (fun H locs hP hD hS => ?_)
                obtain ⟨g_19, eg_19⟩ : ∃ g : Nat → Int64, g = vp_updL q1_10 lv (lN (bv tf b9 (k + 1))) := ⟨_, rfl⟩
                have eU : vp_updL q1_10 (nI lv : Int32).toNatClampNeg (lN (bv tf b9 (k + 1))) = g_19 := by rw [eg_19, show (nI lv : Int32).toNatClampNeg = lv from nI_clamp (by omega)]
                rw [eU] at hP hD
                have hP : va_P D vwCl (wl_k_X4_readBits cI cJ cK xq q1 xt t1 (nI qw) g_19 (nI tz) tf) H := hP
                have hD : va_D A (wl_k_X4_readBits cI cJ cK xq q1 xt t1 (nI qw) g_19 (nI tz) tf) := hD
                refine lv_iinc (v := nI (k + 1)) (lv' := [(5, .int (nI (k + 1))), (0, .ref xq), (1, .ref xt), (2, .int (nI b9)), (3, .int (nI lv)), (4, .int (nI mo))]) hx hb dX4_readBits_55 hl (k := 0) rfl (my_incN k 1 (by decide +kernel)) (by decide) rfl (fun ls hl => ?_)
                refine lv_goto (tgt := 10) hx hb dX4_readBits_58 (by decide) ?_
                exact ih10  (k + 1) g_19 (by omega) (by first | assumption | omega | decide +kernel) (by have h9 := bl_yes (f := tf) (n := tz) (m := mo) (k := k) (a := b9 + k) (by omega) (bitS_iff.mpr ⟨by omega, by omega, by omega⟩); rw [show b9 + (k + 1) = b9 + k + 1 from rfl]; omega) (by first | exact updL_s (by assumption) | (exfalso; omega)) (fun j h => (updL_o (by assumption) h).trans (hq2 j h)) _ _ ls hP hD hS (lv_sub hl [0, 1, 2, 3, 4, 5] rfl)
              ·
                exfalso; omega
          ·
            refine lv_if_eq (tgt := 61) hx hb dX4_readBits_28 (by decide) (fun c28 => ?_) (fun c28 => ?_)
            ·
              have hex := bl_exit (f := tf) (n := tz) (m := mo) (k := k) (a := b9 + k) (by first | (left; omega) | (right; exact bitS_no (by omega)))
              refine lv_iload hx hb dX4_readBits_61 (lv_at hl 0 rfl) ?_
              exact my_retI hx hb hr hlocks hK hS (wl_k_X4_readBits cI cJ cK xq q1 xt t1 (nI qw) q1_10 (nI tz) tf) hP hD (⟨k, q1_10, rfl, rfl, (by first | assumption | omega | trivial | decide +kernel), (by first | assumption | omega | trivial | decide +kernel), hq1, hq2⟩) dX4_readBits_63
            ·
              exact absurd c28 (by decide +kernel)
  exact loop10 ((mo - 0) + 1) 0 g_1 (Nat.lt_succ_self _) (by first | assumption | omega | decide +kernel) ((Nat.zero_add _).symm) (updL_s (by assumption)) (fun j h => updL_o (by assumption) h) _ _ ls hP hD hS (lv_sub hl [0, 1, 2, 3, 4, 5] rfl)
abbrev wl_k_X4_read (cI cJ cK : ClassId) (xq : Nat) (q1 : Nat) (xt : Nat) (t1 : Nat) (v0_ : Int32) (v1_ : Nat → Int64) (v2_ : Int32) (v3_ : Nat → Int32) : va_W := [(xq, .inr (4, [.ref q1, .int v0_])), (q1, .inl (cJ, 8, .inr (.inl v1_))), (xt, .inr (5, [.ref t1, .int v2_])), (t1, .inl (cI, 100, .inl v3_))]
set_option maxHeartbeats 4000000 in
set_option maxRecDepth 100000 in
theorem k_X4_read (l : Launch) (D : va_G) (cI cJ cK : ClassId) (xq : Nat) (q1 : Nat) (xt : Nat) (t1 : Nat) (qw : Nat) (qb : Nat → Int64) (tz : Nat) (tf : Nat → Int32) (hz_qw : qw ≤ 11) (hz_tz : tz ≤ 100) (hR_tf : RB 0 255 tf) : ctI l yX4_read wsX4_read ({ frames := 2, cells := 0, slots := 0, locals := 120 } : Room) D (tyIJ cI cJ cK) [.ref xq, .ref xt] (wl_k_X4_read cI cJ cK xq q1 xt t1 (nI qw) qb (nI tz) tf) (fun (r : Int32) (u : va_W) => (∃ (qw' : Nat) (qb' : Nat → Int64), u = (wl_k_X4_read cI cJ cK xq q1 xt t1 (nI qw') qb' (nI tz) tf) ∧ r = (-1) ∧ qw' ≤ 11 ∧ plOk tf tz ∧ qw' = plW tf tz ∧ (∀ j, j < 8 → qb' j = lN (bv tf (plA (plW tf tz) j) (plW tf tz)))) ∨ (∃ (e' : Nat) (qw' : Nat) (qb' : Nat → Int64), u = (wl_k_X4_read cI cJ cK xq q1 xt t1 (nI qw') qb' (nI tz) tf) ∧ r = nI e' ∧ qw' ≤ 11 ∧ e' ≤ 200 ∧ plErr tf tz e')) := by
  refine ctI.of (cc := cX4_read) (maxL := 6) (ret := (some .int)) (by decide) rfl (Nat.le_of_ble_eq_true rfl) ?_
  intro p e s m below meth c ls A hx hb hr hts hown hml hlocks hname hA hK hN hP hD hS hl
  have hl : lv_has ls 6 [(0, .ref xq), (1, .ref xt)] := hl
  have hown : s.vm.findClass RX4 = some m.cls := hown
  have hi4 : ∀ w ∈ u_ws RX4 TX4 2, w ∈ wsX4_read := by decide +kernel
  have fl15 := hts (.fieldLink RX4 15 "PlaneColumn$PlaneReader" "width" "I") (by decide +kernel)
  refine lv_iconst (v := 0) hx hb dX4_read_0 (by decide +kernel) ?_
  refine lv_istore_n (lv' := [(2, .int 0), (0, .ref xq), (1, .ref xt)]) hx hb dX4_read_1 rfl hl (by decide) rfl (fun ls hl => ?_)
  refine lv_iconst (v := 0) hx hb dX4_read_2 (by decide +kernel) ?_
  refine lv_istore_n (lv' := [(3, .int 0), (2, .int 0), (0, .ref xq), (1, .ref xt)]) hx hb dX4_read_3 rfl hl (by decide) rfl (fun ls hl => ?_)
  have loop4 : ∀ (n9 : Nat) (k : Nat) (a : Nat) (xq_width_4 : Nat) (q1_4 : Nat → Int64), 8 - k < n9 → (a ≤ 200) → (k ≤ 8) → (a ≤ 12 * k) → (a = plA (plW tf tz) k) → (k = 0 ∨ xq_width_4 = plW tf tz) → (∀ q, q < k → rowOk tf tz (plW tf tz) q) → (∀ q, q < k → q1_4 q = lN (bv tf (plA (plW tf tz) q) (plW tf tz))) → (xq_width_4 ≤ 11) → ∀ (H : Heap) (locs : List Loc) (ls : Array Slot), va_P D vwCl (wl_k_X4_read cI cJ cK xq q1 xt t1 (nI xq_width_4) q1_4 (nI tz) tf) H → va_D A (wl_k_X4_read cI cJ cK xq q1 xt t1 (nI xq_width_4) q1_4 (nI tz) tf) → va_S A s.heap H locs → lv_has ls 6 [(3, .int (nI k)), (2, .int (nI a)), (0, .ref xq), (1, .ref xt)] → W p l e ({ frames := 2, cells := 0, slots := 0, locals := 120 } : Room) s m [.ref xq, .ref xt].toArray below meth c H locs 0 0 (MQ below (va_Qi (fun (r : Int32) (u : va_W) => (∃ (qw' : Nat) (qb' : Nat → Int64), u = (wl_k_X4_read cI cJ cK xq q1 xt t1 (nI qw') qb' (nI tz) tf) ∧ r = (-1) ∧ qw' ≤ 11 ∧ plOk tf tz ∧ qw' = plW tf tz ∧ (∀ j, j < 8 → qb' j = lN (bv tf (plA (plW tf tz) j) (plW tf tz)))) ∨ (∃ (e' : Nat) (qw' : Nat) (qb' : Nat → Int64), u = (wl_k_X4_read cI cJ cK xq q1 xt t1 (nI qw') qb' (nI tz) tf) ∧ r = nI e' ∧ qw' ≤ 11 ∧ e' ≤ 200 ∧ plErr tf tz e')) (my_B D (tyIJ cI cJ cK) A) A) [.ref xq, .ref xt].toArray s 0 0 A) (F0 m 4 ls []) := by
    intro n9
    induction n9 with
    | zero =>
      intro k a xq_width_4 q1_4 hn9
      exact absurd hn9 (Nat.not_lt_zero _)
    | succ n9 ih4 =>
      intro k a xq_width_4 q1_4 hn9 hk_a hk_k hak hpA hQ hOk hqb hz_xq_width_4 H locs ls hP hD hS hl
      refine lv_iload_n hx hb dX4_read_4 rfl (lv_at hl 0 rfl) ?_
      refine lv_bipush (v := 8) hx hb dX4_read_5 (by decide +kernel) ?_
      refine lv_icmp_ge (tgt := 91) hx hb dX4_read_7 (by decide) (fun c7 => ?_) (fun c7 => ?_)
      ·
        have d7 : ((k : Nat) : Int) ≥ (8 : Int) := my_ge c7 (nI_toInt (by omega)) (by decide +kernel)
        refine lv_iconst (v := (-1)) hx hb dX4_read_91 (by decide +kernel) ?_
        exact my_retI hx hb hr hlocks hK hS (wl_k_X4_read cI cJ cK xq q1 xt t1 (nI xq_width_4) q1_4 (nI tz) tf) hP hD (Or.inl ⟨xq_width_4, q1_4, rfl, rfl, (by first | assumption | omega | trivial | decide +kernel), (fun q hq => hOk q (by omega)), (by rcases hQ with h | h; (exact absurd h (by omega)); (exact h)), (fun q hq => hqb q (by omega))⟩) dX4_read_92
      ·
        have d7 : ((k : Nat) : Int) < (8 : Int) := my_nge c7 (nI_toInt (by omega)) (by decide +kernel)
        refine lv_aload_n hx hb dX4_read_10 rfl (lv_at hl 2 rfl) ?_
        refine lv_aload_n hx hb dX4_read_11 rfl (lv_at hl 3 rfl) ?_
        refine lv_iload_n hx hb dX4_read_12 rfl (lv_at hl 1 rfl) ?_
        refine lv_iload_n hx hb dX4_read_13 rfl (lv_at hl 0 rfl) ?_
        refine lv_iload_n hx hb dX4_read_14 rfl (lv_at hl 0 rfl) ?_
        refine lv_if_ne (tgt := 23) hx hb dX4_read_15 (by decide) (fun c15 => ?_) (fun c15 => ?_)
        ·
          have d15 : ((k : Nat) : Int) ≠ (0 : Int) := my_ne c15 (nI_toInt (by omega)) (by decide +kernel)
          refine lv_aload_n hx hb dX4_read_23 rfl (lv_at hl 2 rfl) ?_
          refine va_get (ci := 4) (v := .int (nI xq_width_4)) (C := RX4) (T := TX4) (N := 2) hx hb hts hi4 hown hK hP 0 rfl rfl 1 (by decide) fl15 (fun _ h9 => h9) rfl dX4_read_24 ?_
          refine my_goIS (wc := (wl_k_X4_readBits cI cJ cK xq q1 xt t1 (nI xq_width_4) q1_4 (nI tz) tf)) hP hD hS hA [0, 1, 2, 3] rfl [some 0, some 1, some 2, some 3] (by decide +kernel) (my_cV (As := [.ref xt, .int (nI a), .int (nI k), .int (nI xq_width_4)]) (rest := []) (ci := 4) (wc := (wl_k_X4_readBits cI cJ cK xq q1 xt t1 (nI xq_width_4) q1_4 (nI tz) tf)) ⟨hx, hb, hml, hown, hts⟩ (cwV 4 hts gX4_read_X4_readBits rfl rfl rfl (by decide +kernel) ⟨Nat.le_of_ble_eq_true rfl, Nat.le_of_ble_eq_true rfl⟩) hN hK hP hD [0, 1, 2, 3] rfl (by decide) rfl 0 rfl rfl rfl rfl hl.1 rfl (Nat.le_of_ble_eq_true rfl) dX4_read_27 ⟨Nat.le_of_ble_eq_true rfl, Nat.le_of_ble_eq_true rfl⟩  ((k_X4_readBits l D cI cJ cK xq q1 xt t1 xq_width_4 q1_4 tz tf a k xq_width_4 (by first | assumption | omega | decide +kernel) (by first | assumption | omega | decide +kernel) hR_tf (by first | assumption | omega | decide +kernel) (by first | assumption | omega | decide +kernel) (by first | assumption | omega | decide +kernel)) _)) (fun r u H locs hp hPD hS => ?_)
          obtain ⟨k_1, qb_2, rfl, rfl, hk_3, hkb, hq1r, hq2r⟩ := hp
          obtain ⟨hP, hD⟩ := hPD rfl
          have hP : va_P D vwCl (wl_k_X4_read cI cJ cK xq q1 xt t1 (nI xq_width_4) qb_2 (nI tz) tf) H := hP
          have hD : va_D A (wl_k_X4_read cI cJ cK xq q1 xt t1 (nI xq_width_4) qb_2 (nI tz) tf) := hD
          refine lv_istore (lv' := [(4, .int (nI k_1)), (3, .int (nI k)), (2, .int (nI a)), (0, .ref xq), (1, .ref xt)]) hx hb dX4_read_30 hl (by decide) rfl (fun ls hl => ?_)
          refine lv_iload_n hx hb dX4_read_32 rfl (lv_at hl 2 rfl) ?_
          refine lv_iload hx hb dX4_read_33 (lv_at hl 0 rfl) ?_
          refine lv_iadd hx hb dX4_read_35 ?_
          refine my_eqi (y := nI (a + k_1)) (nI_add _ _) ?_
          refine lv_istore_n (lv' := [(2, .int (nI (a + k_1))), (4, .int (nI k_1)), (3, .int (nI k)), (0, .ref xq), (1, .ref xt)]) hx hb dX4_read_36 rfl hl (by decide) rfl (fun ls hl => ?_)
          refine lv_iload_n hx hb dX4_read_37 rfl (lv_at hl 2 rfl) ?_
          refine lv_if_ne (tgt := 47) hx hb dX4_read_38 (by decide) (fun c38 => ?_) (fun c38 => ?_)
          ·
            have d38 : ((k : Nat) : Int) ≠ (0 : Int) := my_ne c38 (nI_toInt (by omega)) (by decide +kernel)
            have hwle := plW_le tf tz
            have hrow : k_1 = blen tf tz (plW tf tz) (plA (plW tf tz) k) := by first | (rw [hkb, hpA, show k = 0 from (by omega), plW_0, plA_0]; rfl) | (rcases hQ with h | h; (exact absurd h (by omega)); (rw [hkb, h, hpA]))
            refine lv_iload_n hx hb dX4_read_47 rfl (lv_at hl 2 rfl) ?_
            refine lv_bipush (v := 7) hx hb dX4_read_48 (by decide +kernel) ?_
            refine lv_icmp_ne (tgt := 57) hx hb dX4_read_50 (by decide) (fun c50 => ?_) (fun c50 => ?_)
            ·
              have d50 : ((k : Nat) : Int) ≠ (7 : Int) := my_ne c50 (nI_toInt (by omega)) (by decide +kernel)
              refine lv_bipush (v := 47) hx hb dX4_read_57 (by decide +kernel) ?_
              refine lv_istore (lv' := [(5, .int 47), (2, .int (nI (a + k_1))), (4, .int (nI k_1)), (3, .int (nI k)), (0, .ref xq), (1, .ref xt)]) hx hb dX4_read_59 hl (by decide) rfl (fun ls hl => ?_)
              refine lv_iload hx hb dX4_read_61 (lv_at hl 2 rfl) ?_
              refine lv_aload_n hx hb dX4_read_63 rfl (lv_at hl 4 rfl) ?_
              refine va_get (ci := 4) (v := .int (nI xq_width_4)) (C := RX4) (T := TX4) (N := 2) hx hb hts hi4 hown hK hP 0 rfl rfl 1 (by decide) fl15 (fun _ h9 => h9) rfl dX4_read_64 ?_
              refine lv_icmp_lt (tgt := 80) hx hb dX4_read_67 (by decide) (fun c67 => ?_) (fun c67 => ?_)
              ·
                have d67 : ((k_1 : Nat) : Int) < ((xq_width_4 : Nat) : Int) := my_lt c67 (nI_toInt (by omega)) (nI_toInt (by omega))
                refine lv_iload_n hx hb dX4_read_80 rfl (lv_at hl 1 rfl) ?_
                exact my_retI hx hb hr hlocks hK hS (wl_k_X4_read cI cJ cK xq q1 xt t1 (nI xq_width_4) qb_2 (nI tz) tf) hP hD (Or.inr (⟨(a + k_1), xq_width_4, qb_2, rfl, rfl, (by first | assumption | omega | trivial | decide +kernel), (by first | assumption | omega | trivial | decide +kernel), ⟨k, by omega, hOk, fun h => (by have h9 := row_no hpA hrow h; first | omega | (have h5 := h9.2.1 (by omega); omega) | (have h5 := h9.2.2 (by omega); omega)), by omega⟩⟩)) dX4_read_81
              ·
                have d67 : ((k_1 : Nat) : Int) ≥ ((xq_width_4 : Nat) : Int) := my_nlt c67 (nI_toInt (by omega)) (nI_toInt (by omega))
                refine lv_aload_n hx hb dX4_read_70 rfl (lv_at hl 5 rfl) ?_
                refine lv_iload_n hx hb dX4_read_71 rfl (lv_at hl 1 rfl) ?_
                refine my_gpI (my_pV (As := [.int (nI (a + k_1))]) (rest := []) (ci := 5) ⟨hx, hb, hml, hown, hts⟩ (cwV 1 hts gX4_read_X5_at rfl rfl rfl (by decide +kernel) ⟨Nat.le_of_ble_eq_true rfl, Nat.le_of_ble_eq_true rfl⟩) hN hK hP [2, 3] rfl 2 rfl rfl rfl rfl hl.1 rfl (Nat.le_of_ble_eq_true rfl) dX4_read_72 ⟨Nat.le_of_ble_eq_true rfl, Nat.le_of_ble_eq_true rfl⟩  (k_X5_at l D cI cJ cK xt t1 tz tf (a + k_1) (by first | assumption | omega | decide +kernel) hR_tf (by first | assumption | omega | decide +kernel))) (fun r hp => ?_)
                rcases hp with ⟨rfl, ha_4⟩ | ⟨rfl, ha_5⟩
                ·
                  refine lv_iload hx hb dX4_read_75 (lv_at hl 0 rfl) ?_
                  have hrt := hR_tf (a + k_1)
                  refine lv_icmp_eq (tgt := 82) hx hb dX4_read_77 (by decide) (fun c77 => ?_) (fun c77 => ?_)
                  ·
                    have d77 : (tf (a + k_1)).toInt = (47 : Int) := my_eq c77 rfl (by decide +kernel)
                    have hkw : k_1 = (plW tf tz) := by first | (rw [hrow, show k = 0 from (by omega)]; exact plW_0 tf tz) | (rcases hQ with h | h; (exact absurd h (by omega)); (omega))
                    refine lv_iinc (v := nI (a + k_1 + 1)) (lv' := [(2, .int (nI (a + k_1 + 1))), (5, .int 47), (4, .int (nI k_1)), (3, .int (nI k)), (0, .ref xq), (1, .ref xt)]) hx hb dX4_read_82 hl (k := 1) rfl (my_incN (a + k_1) 1 (by decide +kernel)) (by decide) rfl (fun ls hl => ?_)
                    refine lv_iinc (v := nI (k + 1)) (lv' := [(3, .int (nI (k + 1))), (2, .int (nI (a + k_1 + 1))), (5, .int 47), (4, .int (nI k_1)), (0, .ref xq), (1, .ref xt)]) hx hb dX4_read_85 hl (k := 3) rfl (my_incN k 1 (by decide +kernel)) (by decide) rfl (fun ls hl => ?_)
                    refine lv_goto (tgt := 4) hx hb dX4_read_88 (by decide) ?_
                    exact ih4  (k + 1) (a + k_1 + 1) xq_width_4 qb_2 (by omega) (by first | assumption | omega | decide +kernel) (by first | assumption | omega | decide +kernel) (by first | assumption | omega | decide +kernel) (by rw [plA_s]; omega) (Or.inr (by omega)) (fun q hq => by rcases Nat.lt_succ_iff_lt_or_eq.mp hq with h | h; (exact hOk q h); (rw [h]; exact row_mk hpA hrow hkw (fun h9 => by first | (exfalso; omega) | exact ⟨by omega, by assumption⟩) (fun h9 => by omega))) (fun q hq => by rcases Nat.lt_succ_iff_lt_or_eq.mp hq with h | h; (rw [hq2r q (by omega)]; exact hqb q h); (rw [h]; exact hq1r.trans (by rw [hpA, hkw]))) (by first | assumption | omega | decide +kernel) _ _ ls hP hD hS (lv_sub hl [0, 1, 4, 5] rfl)
                  ·
                    have d77 : (tf (a + k_1)).toInt ≠ (47 : Int) := my_ne c77 rfl (by decide +kernel)
                    refine lv_iload_n hx hb dX4_read_80 rfl (lv_at hl 1 rfl) ?_
                    exact my_retI hx hb hr hlocks hK hS (wl_k_X4_read cI cJ cK xq q1 xt t1 (nI xq_width_4) qb_2 (nI tz) tf) hP hD (Or.inr (⟨(a + k_1), xq_width_4, qb_2, rfl, rfl, (by first | assumption | omega | trivial | decide +kernel), (by first | assumption | omega | trivial | decide +kernel), ⟨k, by omega, hOk, fun h => (by have h9 := row_no hpA hrow h; first | omega | (have h5 := h9.2.1 (by omega); omega) | (have h5 := h9.2.2 (by omega); omega)), by omega⟩⟩)) dX4_read_81
                ·
                  refine lv_iload hx hb dX4_read_75 (lv_at hl 0 rfl) ?_
                  have hrt := hR_tf (a + k_1)
                  refine lv_icmp_eq (tgt := 82) hx hb dX4_read_77 (by decide) (fun c77 => ?_) (fun c77 => ?_)
                  ·
                    exact absurd c77 (by decide +kernel)
                  ·
                    refine lv_iload_n hx hb dX4_read_80 rfl (lv_at hl 1 rfl) ?_
                    exact my_retI hx hb hr hlocks hK hS (wl_k_X4_read cI cJ cK xq q1 xt t1 (nI xq_width_4) qb_2 (nI tz) tf) hP hD (Or.inr (⟨(a + k_1), xq_width_4, qb_2, rfl, rfl, (by first | assumption | omega | trivial | decide +kernel), (by first | assumption | omega | trivial | decide +kernel), ⟨k, by omega, hOk, fun h => (by have h9 := row_no hpA hrow h; first | omega | (have h5 := h9.2.1 (by omega); omega) | (have h5 := h9.2.2 (by omega); omega)), by omega⟩⟩)) dX4_read_81
            ·
              have d50 : ((k : Nat) : Int) = (7 : Int) := my_eq c50 (nI_toInt (by omega)) (by decide +kernel)
              refine lv_iconst (v := (-1)) hx hb dX4_read_53 (by decide +kernel) ?_
              refine lv_goto (tgt := 59) hx hb dX4_read_54 (by decide) ?_
              refine lv_istore (lv' := [(5, .int (-1)), (2, .int (nI (a + k_1))), (4, .int (nI k_1)), (3, .int (nI k)), (0, .ref xq), (1, .ref xt)]) hx hb dX4_read_59 hl (by decide) rfl (fun ls hl => ?_)
              refine lv_iload hx hb dX4_read_61 (lv_at hl 2 rfl) ?_
              refine lv_aload_n hx hb dX4_read_63 rfl (lv_at hl 4 rfl) ?_
              refine va_get (ci := 4) (v := .int (nI xq_width_4)) (C := RX4) (T := TX4) (N := 2) hx hb hts hi4 hown hK hP 0 rfl rfl 1 (by decide) fl15 (fun _ h9 => h9) rfl dX4_read_64 ?_
              refine lv_icmp_lt (tgt := 80) hx hb dX4_read_67 (by decide) (fun c67 => ?_) (fun c67 => ?_)
              ·
                have d67 : ((k_1 : Nat) : Int) < ((xq_width_4 : Nat) : Int) := my_lt c67 (nI_toInt (by omega)) (nI_toInt (by omega))
                refine lv_iload_n hx hb dX4_read_80 rfl (lv_at hl 1 rfl) ?_
                exact my_retI hx hb hr hlocks hK hS (wl_k_X4_read cI cJ cK xq q1 xt t1 (nI xq_width_4) qb_2 (nI tz) tf) hP hD (Or.inr (⟨(a + k_1), xq_width_4, qb_2, rfl, rfl, (by first | assumption | omega | trivial | decide +kernel), (by first | assumption | omega | trivial | decide +kernel), ⟨k, by omega, hOk, fun h => (by have h9 := row_no hpA hrow h; first | omega | (have h5 := h9.2.1 (by omega); omega) | (have h5 := h9.2.2 (by omega); omega)), by omega⟩⟩)) dX4_read_81
              ·
                have d67 : ((k_1 : Nat) : Int) ≥ ((xq_width_4 : Nat) : Int) := my_nlt c67 (nI_toInt (by omega)) (nI_toInt (by omega))
                refine lv_aload_n hx hb dX4_read_70 rfl (lv_at hl 5 rfl) ?_
                refine lv_iload_n hx hb dX4_read_71 rfl (lv_at hl 1 rfl) ?_
                refine my_gpI (my_pV (As := [.int (nI (a + k_1))]) (rest := []) (ci := 5) ⟨hx, hb, hml, hown, hts⟩ (cwV 1 hts gX4_read_X5_at rfl rfl rfl (by decide +kernel) ⟨Nat.le_of_ble_eq_true rfl, Nat.le_of_ble_eq_true rfl⟩) hN hK hP [2, 3] rfl 2 rfl rfl rfl rfl hl.1 rfl (Nat.le_of_ble_eq_true rfl) dX4_read_72 ⟨Nat.le_of_ble_eq_true rfl, Nat.le_of_ble_eq_true rfl⟩  (k_X5_at l D cI cJ cK xt t1 tz tf (a + k_1) (by first | assumption | omega | decide +kernel) hR_tf (by first | assumption | omega | decide +kernel))) (fun r hp => ?_)
                rcases hp with ⟨rfl, ha_6⟩ | ⟨rfl, ha_7⟩
                ·
                  refine lv_iload hx hb dX4_read_75 (lv_at hl 0 rfl) ?_
                  have hrt := hR_tf (a + k_1)
                  refine lv_icmp_eq (tgt := 82) hx hb dX4_read_77 (by decide) (fun c77 => ?_) (fun c77 => ?_)
                  ·
                    have d77 : (tf (a + k_1)).toInt = (-1 : Int) := my_eq c77 rfl (by decide +kernel)
                    have hkw : k_1 = (plW tf tz) := by first | (rw [hrow, show k = 0 from (by omega)]; exact plW_0 tf tz) | (rcases hQ with h | h; (exact absurd h (by omega)); (omega))
                    refine lv_iinc (v := nI (a + k_1 + 1)) (lv' := [(2, .int (nI (a + k_1 + 1))), (5, .int (-1)), (4, .int (nI k_1)), (3, .int (nI k)), (0, .ref xq), (1, .ref xt)]) hx hb dX4_read_82 hl (k := 1) rfl (my_incN (a + k_1) 1 (by decide +kernel)) (by decide) rfl (fun ls hl => ?_)
                    refine lv_iinc (v := nI (k + 1)) (lv' := [(3, .int (nI (k + 1))), (2, .int (nI (a + k_1 + 1))), (5, .int (-1)), (4, .int (nI k_1)), (0, .ref xq), (1, .ref xt)]) hx hb dX4_read_85 hl (k := 3) rfl (my_incN k 1 (by decide +kernel)) (by decide) rfl (fun ls hl => ?_)
                    refine lv_goto (tgt := 4) hx hb dX4_read_88 (by decide) ?_
                    exact ih4  (k + 1) (a + k_1 + 1) xq_width_4 qb_2 (by omega) (by first | assumption | omega | decide +kernel) (by first | assumption | omega | decide +kernel) (by first | assumption | omega | decide +kernel) (by rw [plA_s]; omega) (Or.inr (by omega)) (fun q hq => by rcases Nat.lt_succ_iff_lt_or_eq.mp hq with h | h; (exact hOk q h); (rw [h]; exact row_mk hpA hrow hkw (fun h9 => by first | (exfalso; omega) | exact ⟨by omega, by assumption⟩) (fun h9 => by omega))) (fun q hq => by rcases Nat.lt_succ_iff_lt_or_eq.mp hq with h | h; (rw [hq2r q (by omega)]; exact hqb q h); (rw [h]; exact hq1r.trans (by rw [hpA, hkw]))) (by first | assumption | omega | decide +kernel) _ _ ls hP hD hS (lv_sub hl [0, 1, 4, 5] rfl)
                  ·
                    have d77 : (tf (a + k_1)).toInt ≠ (-1 : Int) := my_ne c77 rfl (by decide +kernel)
                    refine lv_iload_n hx hb dX4_read_80 rfl (lv_at hl 1 rfl) ?_
                    exact my_retI hx hb hr hlocks hK hS (wl_k_X4_read cI cJ cK xq q1 xt t1 (nI xq_width_4) qb_2 (nI tz) tf) hP hD (Or.inr (⟨(a + k_1), xq_width_4, qb_2, rfl, rfl, (by first | assumption | omega | trivial | decide +kernel), (by first | assumption | omega | trivial | decide +kernel), ⟨k, by omega, hOk, fun h => (by have h9 := row_no hpA hrow h; first | omega | (have h5 := h9.2.1 (by omega); omega) | (have h5 := h9.2.2 (by omega); omega)), by omega⟩⟩)) dX4_read_81
                ·
                  refine lv_iload hx hb dX4_read_75 (lv_at hl 0 rfl) ?_
                  have hrt := hR_tf (a + k_1)
                  refine lv_icmp_eq (tgt := 82) hx hb dX4_read_77 (by decide) (fun c77 => ?_) (fun c77 => ?_)
                  ·
                    have hkw : k_1 = (plW tf tz) := by first | (rw [hrow, show k = 0 from (by omega)]; exact plW_0 tf tz) | (rcases hQ with h | h; (exact absurd h (by omega)); (omega))
                    refine lv_iinc (v := nI (a + k_1 + 1)) (lv' := [(2, .int (nI (a + k_1 + 1))), (5, .int (-1)), (4, .int (nI k_1)), (3, .int (nI k)), (0, .ref xq), (1, .ref xt)]) hx hb dX4_read_82 hl (k := 1) rfl (my_incN (a + k_1) 1 (by decide +kernel)) (by decide) rfl (fun ls hl => ?_)
                    refine lv_iinc (v := nI (k + 1)) (lv' := [(3, .int (nI (k + 1))), (2, .int (nI (a + k_1 + 1))), (5, .int (-1)), (4, .int (nI k_1)), (0, .ref xq), (1, .ref xt)]) hx hb dX4_read_85 hl (k := 3) rfl (my_incN k 1 (by decide +kernel)) (by decide) rfl (fun ls hl => ?_)
                    refine lv_goto (tgt := 4) hx hb dX4_read_88 (by decide) ?_
                    exact ih4  (k + 1) (a + k_1 + 1) xq_width_4 qb_2 (by omega) (by first | assumption | omega | decide +kernel) (by first | assumption | omega | decide +kernel) (by first | assumption | omega | decide +kernel) (by rw [plA_s]; omega) (Or.inr (by omega)) (fun q hq => by rcases Nat.lt_succ_iff_lt_or_eq.mp hq with h | h; (exact hOk q h); (rw [h]; exact row_mk hpA hrow hkw (fun h9 => by first | (exfalso; omega) | exact ⟨by omega, by assumption⟩) (fun h9 => by omega))) (fun q hq => by rcases Nat.lt_succ_iff_lt_or_eq.mp hq with h | h; (rw [hq2r q (by omega)]; exact hqb q h); (rw [h]; exact hq1r.trans (by rw [hpA, hkw]))) (by first | assumption | omega | decide +kernel) _ _ ls hP hD hS (lv_sub hl [0, 1, 4, 5] rfl)
                  ·
                    exact absurd c77 (by decide +kernel)
          ·
            have d38 : ((k : Nat) : Int) = (0 : Int) := my_eq c38 (nI_toInt (by omega)) (by decide +kernel)
            refine lv_aload_n hx hb dX4_read_41 rfl (lv_at hl 3 rfl) ?_
            refine lv_iload hx hb dX4_read_42 (lv_at hl 1 rfl) ?_
            refine va_put (ci := 4) (v := .int (nI k_1)) (ty := (.int)) (C := RX4) (T := TX4) (N := 2) hx hb hts hi4 tyX4 tyX4_ok nmX4 hown hK hP hD hS 0 rfl rfl 1 (by decide) fl15 (fun _ h9 => h9) rfl (by decide +kernel) rfl rfl (Nat.le_of_ble_eq_true rfl) dX4_read_44 (fun H locs hP hD hS => ?_)
            have hP : va_P D vwCl (wl_k_X4_read cI cJ cK xq q1 xt t1 (nI k_1) qb_2 (nI tz) tf) H := hP
            have hD : va_D A (wl_k_X4_read cI cJ cK xq q1 xt t1 (nI k_1) qb_2 (nI tz) tf) := hD
            have hwle := plW_le tf tz
            have hrow : k_1 = blen tf tz (plW tf tz) (plA (plW tf tz) k) := by first | (rw [hkb, hpA, show k = 0 from (by omega), plW_0, plA_0]; rfl) | (rcases hQ with h | h; (exact absurd h (by omega)); (rw [hkb, h, hpA]))
            refine lv_iload_n hx hb dX4_read_47 rfl (lv_at hl 2 rfl) ?_
            refine lv_bipush (v := 7) hx hb dX4_read_48 (by decide +kernel) ?_
            refine lv_icmp_ne (tgt := 57) hx hb dX4_read_50 (by decide) (fun c50 => ?_) (fun c50 => ?_)
            ·
              have d50 : ((k : Nat) : Int) ≠ (7 : Int) := my_ne c50 (nI_toInt (by omega)) (by decide +kernel)
              refine lv_bipush (v := 47) hx hb dX4_read_57 (by decide +kernel) ?_
              refine lv_istore (lv' := [(5, .int 47), (2, .int (nI (a + k_1))), (4, .int (nI k_1)), (3, .int (nI k)), (0, .ref xq), (1, .ref xt)]) hx hb dX4_read_59 hl (by decide) rfl (fun ls hl => ?_)
              refine lv_iload hx hb dX4_read_61 (lv_at hl 2 rfl) ?_
              refine lv_aload_n hx hb dX4_read_63 rfl (lv_at hl 4 rfl) ?_
              refine va_get (ci := 4) (v := .int (nI k_1)) (C := RX4) (T := TX4) (N := 2) hx hb hts hi4 hown hK hP 0 rfl rfl 1 (by decide) fl15 (fun _ h9 => h9) rfl dX4_read_64 ?_
              refine lv_icmp_lt (tgt := 80) hx hb dX4_read_67 (by decide) (fun c67 => ?_) (fun c67 => ?_)
              ·
                have d67 : ((k_1 : Nat) : Int) < ((k_1 : Nat) : Int) := my_lt c67 (nI_toInt (by omega)) (nI_toInt (by omega))
                refine lv_iload_n hx hb dX4_read_80 rfl (lv_at hl 1 rfl) ?_
                exact my_retI hx hb hr hlocks hK hS (wl_k_X4_read cI cJ cK xq q1 xt t1 (nI k_1) qb_2 (nI tz) tf) hP hD (Or.inr (⟨(a + k_1), k_1, qb_2, rfl, rfl, (by first | assumption | omega | trivial | decide +kernel), (by first | assumption | omega | trivial | decide +kernel), ⟨k, by omega, hOk, fun h => (by have h9 := row_no hpA hrow h; first | omega | (have h5 := h9.2.1 (by omega); omega) | (have h5 := h9.2.2 (by omega); omega)), by omega⟩⟩)) dX4_read_81
              ·
                have d67 : ((k_1 : Nat) : Int) ≥ ((k_1 : Nat) : Int) := my_nlt c67 (nI_toInt (by omega)) (nI_toInt (by omega))
                refine lv_aload_n hx hb dX4_read_70 rfl (lv_at hl 5 rfl) ?_
                refine lv_iload_n hx hb dX4_read_71 rfl (lv_at hl 1 rfl) ?_
                refine my_gpI (my_pV (As := [.int (nI (a + k_1))]) (rest := []) (ci := 5) ⟨hx, hb, hml, hown, hts⟩ (cwV 1 hts gX4_read_X5_at rfl rfl rfl (by decide +kernel) ⟨Nat.le_of_ble_eq_true rfl, Nat.le_of_ble_eq_true rfl⟩) hN hK hP [2, 3] rfl 2 rfl rfl rfl rfl hl.1 rfl (Nat.le_of_ble_eq_true rfl) dX4_read_72 ⟨Nat.le_of_ble_eq_true rfl, Nat.le_of_ble_eq_true rfl⟩  (k_X5_at l D cI cJ cK xt t1 tz tf (a + k_1) (by first | assumption | omega | decide +kernel) hR_tf (by first | assumption | omega | decide +kernel))) (fun r hp => ?_)
                rcases hp with ⟨rfl, ha_8⟩ | ⟨rfl, ha_9⟩
                ·
                  refine lv_iload hx hb dX4_read_75 (lv_at hl 0 rfl) ?_
                  have hrt := hR_tf (a + k_1)
                  refine lv_icmp_eq (tgt := 82) hx hb dX4_read_77 (by decide) (fun c77 => ?_) (fun c77 => ?_)
                  ·
                    have d77 : (tf (a + k_1)).toInt = (47 : Int) := my_eq c77 rfl (by decide +kernel)
                    have hkw : k_1 = (plW tf tz) := by first | (rw [hrow, show k = 0 from (by omega)]; exact plW_0 tf tz) | (rcases hQ with h | h; (exact absurd h (by omega)); (omega))
                    refine lv_iinc (v := nI (a + k_1 + 1)) (lv' := [(2, .int (nI (a + k_1 + 1))), (5, .int 47), (4, .int (nI k_1)), (3, .int (nI k)), (0, .ref xq), (1, .ref xt)]) hx hb dX4_read_82 hl (k := 1) rfl (my_incN (a + k_1) 1 (by decide +kernel)) (by decide) rfl (fun ls hl => ?_)
                    refine lv_iinc (v := nI (k + 1)) (lv' := [(3, .int (nI (k + 1))), (2, .int (nI (a + k_1 + 1))), (5, .int 47), (4, .int (nI k_1)), (0, .ref xq), (1, .ref xt)]) hx hb dX4_read_85 hl (k := 3) rfl (my_incN k 1 (by decide +kernel)) (by decide) rfl (fun ls hl => ?_)
                    refine lv_goto (tgt := 4) hx hb dX4_read_88 (by decide) ?_
                    exact ih4  (k + 1) (a + k_1 + 1) k_1 qb_2 (by omega) (by first | assumption | omega | decide +kernel) (by first | assumption | omega | decide +kernel) (by first | assumption | omega | decide +kernel) (by rw [plA_s]; omega) (Or.inr (by omega)) (fun q hq => by rcases Nat.lt_succ_iff_lt_or_eq.mp hq with h | h; (exact hOk q h); (rw [h]; exact row_mk hpA hrow hkw (fun h9 => by first | (exfalso; omega) | exact ⟨by omega, by assumption⟩) (fun h9 => by omega))) (fun q hq => by rcases Nat.lt_succ_iff_lt_or_eq.mp hq with h | h; (rw [hq2r q (by omega)]; exact hqb q h); (rw [h]; exact hq1r.trans (by rw [hpA, hkw]))) (by first | assumption | omega | decide +kernel) _ _ ls hP hD hS (lv_sub hl [0, 1, 4, 5] rfl)
                  ·
                    have d77 : (tf (a + k_1)).toInt ≠ (47 : Int) := my_ne c77 rfl (by decide +kernel)
                    refine lv_iload_n hx hb dX4_read_80 rfl (lv_at hl 1 rfl) ?_
                    exact my_retI hx hb hr hlocks hK hS (wl_k_X4_read cI cJ cK xq q1 xt t1 (nI k_1) qb_2 (nI tz) tf) hP hD (Or.inr (⟨(a + k_1), k_1, qb_2, rfl, rfl, (by first | assumption | omega | trivial | decide +kernel), (by first | assumption | omega | trivial | decide +kernel), ⟨k, by omega, hOk, fun h => (by have h9 := row_no hpA hrow h; first | omega | (have h5 := h9.2.1 (by omega); omega) | (have h5 := h9.2.2 (by omega); omega)), by omega⟩⟩)) dX4_read_81
                ·
                  refine lv_iload hx hb dX4_read_75 (lv_at hl 0 rfl) ?_
                  have hrt := hR_tf (a + k_1)
                  refine lv_icmp_eq (tgt := 82) hx hb dX4_read_77 (by decide) (fun c77 => ?_) (fun c77 => ?_)
                  ·
                    exact absurd c77 (by decide +kernel)
                  ·
                    refine lv_iload_n hx hb dX4_read_80 rfl (lv_at hl 1 rfl) ?_
                    exact my_retI hx hb hr hlocks hK hS (wl_k_X4_read cI cJ cK xq q1 xt t1 (nI k_1) qb_2 (nI tz) tf) hP hD (Or.inr (⟨(a + k_1), k_1, qb_2, rfl, rfl, (by first | assumption | omega | trivial | decide +kernel), (by first | assumption | omega | trivial | decide +kernel), ⟨k, by omega, hOk, fun h => (by have h9 := row_no hpA hrow h; first | omega | (have h5 := h9.2.1 (by omega); omega) | (have h5 := h9.2.2 (by omega); omega)), by omega⟩⟩)) dX4_read_81
            ·
              have d50 : ((k : Nat) : Int) = (7 : Int) := my_eq c50 (nI_toInt (by omega)) (by decide +kernel)
              refine lv_iconst (v := (-1)) hx hb dX4_read_53 (by decide +kernel) ?_
              refine lv_goto (tgt := 59) hx hb dX4_read_54 (by decide) ?_
              refine lv_istore (lv' := [(5, .int (-1)), (2, .int (nI (a + k_1))), (4, .int (nI k_1)), (3, .int (nI k)), (0, .ref xq), (1, .ref xt)]) hx hb dX4_read_59 hl (by decide) rfl (fun ls hl => ?_)
              refine lv_iload hx hb dX4_read_61 (lv_at hl 2 rfl) ?_
              refine lv_aload_n hx hb dX4_read_63 rfl (lv_at hl 4 rfl) ?_
              refine va_get (ci := 4) (v := .int (nI k_1)) (C := RX4) (T := TX4) (N := 2) hx hb hts hi4 hown hK hP 0 rfl rfl 1 (by decide) fl15 (fun _ h9 => h9) rfl dX4_read_64 ?_
              refine lv_icmp_lt (tgt := 80) hx hb dX4_read_67 (by decide) (fun c67 => ?_) (fun c67 => ?_)
              ·
                have d67 : ((k_1 : Nat) : Int) < ((k_1 : Nat) : Int) := my_lt c67 (nI_toInt (by omega)) (nI_toInt (by omega))
                refine lv_iload_n hx hb dX4_read_80 rfl (lv_at hl 1 rfl) ?_
                exact my_retI hx hb hr hlocks hK hS (wl_k_X4_read cI cJ cK xq q1 xt t1 (nI k_1) qb_2 (nI tz) tf) hP hD (Or.inr (⟨(a + k_1), k_1, qb_2, rfl, rfl, (by first | assumption | omega | trivial | decide +kernel), (by first | assumption | omega | trivial | decide +kernel), ⟨k, by omega, hOk, fun h => (by have h9 := row_no hpA hrow h; first | omega | (have h5 := h9.2.1 (by omega); omega) | (have h5 := h9.2.2 (by omega); omega)), by omega⟩⟩)) dX4_read_81
              ·
                have d67 : ((k_1 : Nat) : Int) ≥ ((k_1 : Nat) : Int) := my_nlt c67 (nI_toInt (by omega)) (nI_toInt (by omega))
                refine lv_aload_n hx hb dX4_read_70 rfl (lv_at hl 5 rfl) ?_
                refine lv_iload_n hx hb dX4_read_71 rfl (lv_at hl 1 rfl) ?_
                refine my_gpI (my_pV (As := [.int (nI (a + k_1))]) (rest := []) (ci := 5) ⟨hx, hb, hml, hown, hts⟩ (cwV 1 hts gX4_read_X5_at rfl rfl rfl (by decide +kernel) ⟨Nat.le_of_ble_eq_true rfl, Nat.le_of_ble_eq_true rfl⟩) hN hK hP [2, 3] rfl 2 rfl rfl rfl rfl hl.1 rfl (Nat.le_of_ble_eq_true rfl) dX4_read_72 ⟨Nat.le_of_ble_eq_true rfl, Nat.le_of_ble_eq_true rfl⟩  (k_X5_at l D cI cJ cK xt t1 tz tf (a + k_1) (by first | assumption | omega | decide +kernel) hR_tf (by first | assumption | omega | decide +kernel))) (fun r hp => ?_)
                rcases hp with ⟨rfl, ha_10⟩ | ⟨rfl, ha_11⟩
                ·
                  refine lv_iload hx hb dX4_read_75 (lv_at hl 0 rfl) ?_
                  have hrt := hR_tf (a + k_1)
                  refine lv_icmp_eq (tgt := 82) hx hb dX4_read_77 (by decide) (fun c77 => ?_) (fun c77 => ?_)
                  ·
                    have d77 : (tf (a + k_1)).toInt = (-1 : Int) := my_eq c77 rfl (by decide +kernel)
                    have hkw : k_1 = (plW tf tz) := by first | (rw [hrow, show k = 0 from (by omega)]; exact plW_0 tf tz) | (rcases hQ with h | h; (exact absurd h (by omega)); (omega))
                    refine lv_iinc (v := nI (a + k_1 + 1)) (lv' := [(2, .int (nI (a + k_1 + 1))), (5, .int (-1)), (4, .int (nI k_1)), (3, .int (nI k)), (0, .ref xq), (1, .ref xt)]) hx hb dX4_read_82 hl (k := 1) rfl (my_incN (a + k_1) 1 (by decide +kernel)) (by decide) rfl (fun ls hl => ?_)
                    refine lv_iinc (v := nI (k + 1)) (lv' := [(3, .int (nI (k + 1))), (2, .int (nI (a + k_1 + 1))), (5, .int (-1)), (4, .int (nI k_1)), (0, .ref xq), (1, .ref xt)]) hx hb dX4_read_85 hl (k := 3) rfl (my_incN k 1 (by decide +kernel)) (by decide) rfl (fun ls hl => ?_)
                    refine lv_goto (tgt := 4) hx hb dX4_read_88 (by decide) ?_
                    exact ih4  (k + 1) (a + k_1 + 1) k_1 qb_2 (by omega) (by first | assumption | omega | decide +kernel) (by first | assumption | omega | decide +kernel) (by first | assumption | omega | decide +kernel) (by rw [plA_s]; omega) (Or.inr (by omega)) (fun q hq => by rcases Nat.lt_succ_iff_lt_or_eq.mp hq with h | h; (exact hOk q h); (rw [h]; exact row_mk hpA hrow hkw (fun h9 => by first | (exfalso; omega) | exact ⟨by omega, by assumption⟩) (fun h9 => by omega))) (fun q hq => by rcases Nat.lt_succ_iff_lt_or_eq.mp hq with h | h; (rw [hq2r q (by omega)]; exact hqb q h); (rw [h]; exact hq1r.trans (by rw [hpA, hkw]))) (by first | assumption | omega | decide +kernel) _ _ ls hP hD hS (lv_sub hl [0, 1, 4, 5] rfl)
                  ·
                    have d77 : (tf (a + k_1)).toInt ≠ (-1 : Int) := my_ne c77 rfl (by decide +kernel)
                    refine lv_iload_n hx hb dX4_read_80 rfl (lv_at hl 1 rfl) ?_
                    exact my_retI hx hb hr hlocks hK hS (wl_k_X4_read cI cJ cK xq q1 xt t1 (nI k_1) qb_2 (nI tz) tf) hP hD (Or.inr (⟨(a + k_1), k_1, qb_2, rfl, rfl, (by first | assumption | omega | trivial | decide +kernel), (by first | assumption | omega | trivial | decide +kernel), ⟨k, by omega, hOk, fun h => (by have h9 := row_no hpA hrow h; first | omega | (have h5 := h9.2.1 (by omega); omega) | (have h5 := h9.2.2 (by omega); omega)), by omega⟩⟩)) dX4_read_81
                ·
                  refine lv_iload hx hb dX4_read_75 (lv_at hl 0 rfl) ?_
                  have hrt := hR_tf (a + k_1)
                  refine lv_icmp_eq (tgt := 82) hx hb dX4_read_77 (by decide) (fun c77 => ?_) (fun c77 => ?_)
                  ·
                    have hkw : k_1 = (plW tf tz) := by first | (rw [hrow, show k = 0 from (by omega)]; exact plW_0 tf tz) | (rcases hQ with h | h; (exact absurd h (by omega)); (omega))
                    refine lv_iinc (v := nI (a + k_1 + 1)) (lv' := [(2, .int (nI (a + k_1 + 1))), (5, .int (-1)), (4, .int (nI k_1)), (3, .int (nI k)), (0, .ref xq), (1, .ref xt)]) hx hb dX4_read_82 hl (k := 1) rfl (my_incN (a + k_1) 1 (by decide +kernel)) (by decide) rfl (fun ls hl => ?_)
                    refine lv_iinc (v := nI (k + 1)) (lv' := [(3, .int (nI (k + 1))), (2, .int (nI (a + k_1 + 1))), (5, .int (-1)), (4, .int (nI k_1)), (0, .ref xq), (1, .ref xt)]) hx hb dX4_read_85 hl (k := 3) rfl (my_incN k 1 (by decide +kernel)) (by decide) rfl (fun ls hl => ?_)
                    refine lv_goto (tgt := 4) hx hb dX4_read_88 (by decide) ?_
                    exact ih4  (k + 1) (a + k_1 + 1) k_1 qb_2 (by omega) (by first | assumption | omega | decide +kernel) (by first | assumption | omega | decide +kernel) (by first | assumption | omega | decide +kernel) (by rw [plA_s]; omega) (Or.inr (by omega)) (fun q hq => by rcases Nat.lt_succ_iff_lt_or_eq.mp hq with h | h; (exact hOk q h); (rw [h]; exact row_mk hpA hrow hkw (fun h9 => by first | (exfalso; omega) | exact ⟨by omega, by assumption⟩) (fun h9 => by omega))) (fun q hq => by rcases Nat.lt_succ_iff_lt_or_eq.mp hq with h | h; (rw [hq2r q (by omega)]; exact hqb q h); (rw [h]; exact hq1r.trans (by rw [hpA, hkw]))) (by first | assumption | omega | decide +kernel) _ _ ls hP hD hS (lv_sub hl [0, 1, 4, 5] rfl)
                  ·
                    exact absurd c77 (by decide +kernel)
        ·
          have d15 : ((k : Nat) : Int) = (0 : Int) := my_eq c15 (nI_toInt (by omega)) (by decide +kernel)
          refine lv_bipush (v := 11) hx hb dX4_read_18 (by decide +kernel) ?_
          refine lv_goto (tgt := 27) hx hb dX4_read_20 (by decide) ?_
          refine my_goIS (wc := (wl_k_X4_readBits cI cJ cK xq q1 xt t1 (nI xq_width_4) q1_4 (nI tz) tf)) hP hD hS hA [0, 1, 2, 3] rfl [some 0, some 1, some 2, some 3] (by decide +kernel) (my_cV (As := [.ref xt, .int (nI a), .int (nI k), .int 11]) (rest := []) (ci := 4) (wc := (wl_k_X4_readBits cI cJ cK xq q1 xt t1 (nI xq_width_4) q1_4 (nI tz) tf)) ⟨hx, hb, hml, hown, hts⟩ (cwV 4 hts gX4_read_X4_readBits rfl rfl rfl (by decide +kernel) ⟨Nat.le_of_ble_eq_true rfl, Nat.le_of_ble_eq_true rfl⟩) hN hK hP hD [0, 1, 2, 3] rfl (by decide) rfl 0 rfl rfl rfl rfl hl.1 rfl (Nat.le_of_ble_eq_true rfl) dX4_read_27 ⟨Nat.le_of_ble_eq_true rfl, Nat.le_of_ble_eq_true rfl⟩  ((k_X4_readBits l D cI cJ cK xq q1 xt t1 xq_width_4 q1_4 tz tf a k 11 (by first | assumption | omega | decide +kernel) (by first | assumption | omega | decide +kernel) hR_tf (by first | assumption | omega | decide +kernel) (by first | assumption | omega | decide +kernel) (by first | assumption | omega | decide +kernel)) _)) (fun r u H locs hp hPD hS => ?_)
          obtain ⟨k_12, qb_13, rfl, rfl, hk_14, hkb, hq1r, hq2r⟩ := hp
          obtain ⟨hP, hD⟩ := hPD rfl
          have hP : va_P D vwCl (wl_k_X4_read cI cJ cK xq q1 xt t1 (nI xq_width_4) qb_13 (nI tz) tf) H := hP
          have hD : va_D A (wl_k_X4_read cI cJ cK xq q1 xt t1 (nI xq_width_4) qb_13 (nI tz) tf) := hD
          refine lv_istore (lv' := [(4, .int (nI k_12)), (3, .int (nI k)), (2, .int (nI a)), (0, .ref xq), (1, .ref xt)]) hx hb dX4_read_30 hl (by decide) rfl (fun ls hl => ?_)
          refine lv_iload_n hx hb dX4_read_32 rfl (lv_at hl 2 rfl) ?_
          refine lv_iload hx hb dX4_read_33 (lv_at hl 0 rfl) ?_
          refine lv_iadd hx hb dX4_read_35 ?_
          refine my_eqi (y := nI (a + k_12)) (nI_add _ _) ?_
          refine lv_istore_n (lv' := [(2, .int (nI (a + k_12))), (4, .int (nI k_12)), (3, .int (nI k)), (0, .ref xq), (1, .ref xt)]) hx hb dX4_read_36 rfl hl (by decide) rfl (fun ls hl => ?_)
          refine lv_iload_n hx hb dX4_read_37 rfl (lv_at hl 2 rfl) ?_
          refine lv_if_ne (tgt := 47) hx hb dX4_read_38 (by decide) (fun c38 => ?_) (fun c38 => ?_)
          ·
            have d38 : ((k : Nat) : Int) ≠ (0 : Int) := my_ne c38 (nI_toInt (by omega)) (by decide +kernel)
            have hwle := plW_le tf tz
            have hrow : k_12 = blen tf tz (plW tf tz) (plA (plW tf tz) k) := by first | (rw [hkb, hpA, show k = 0 from (by omega), plW_0, plA_0]; rfl) | (rcases hQ with h | h; (exact absurd h (by omega)); (rw [hkb, h, hpA]))
            refine lv_iload_n hx hb dX4_read_47 rfl (lv_at hl 2 rfl) ?_
            refine lv_bipush (v := 7) hx hb dX4_read_48 (by decide +kernel) ?_
            refine lv_icmp_ne (tgt := 57) hx hb dX4_read_50 (by decide) (fun c50 => ?_) (fun c50 => ?_)
            ·
              have d50 : ((k : Nat) : Int) ≠ (7 : Int) := my_ne c50 (nI_toInt (by omega)) (by decide +kernel)
              refine lv_bipush (v := 47) hx hb dX4_read_57 (by decide +kernel) ?_
              refine lv_istore (lv' := [(5, .int 47), (2, .int (nI (a + k_12))), (4, .int (nI k_12)), (3, .int (nI k)), (0, .ref xq), (1, .ref xt)]) hx hb dX4_read_59 hl (by decide) rfl (fun ls hl => ?_)
              refine lv_iload hx hb dX4_read_61 (lv_at hl 2 rfl) ?_
              refine lv_aload_n hx hb dX4_read_63 rfl (lv_at hl 4 rfl) ?_
              refine va_get (ci := 4) (v := .int (nI xq_width_4)) (C := RX4) (T := TX4) (N := 2) hx hb hts hi4 hown hK hP 0 rfl rfl 1 (by decide) fl15 (fun _ h9 => h9) rfl dX4_read_64 ?_
              refine lv_icmp_lt (tgt := 80) hx hb dX4_read_67 (by decide) (fun c67 => ?_) (fun c67 => ?_)
              ·
                have d67 : ((k_12 : Nat) : Int) < ((xq_width_4 : Nat) : Int) := my_lt c67 (nI_toInt (by omega)) (nI_toInt (by omega))
                refine lv_iload_n hx hb dX4_read_80 rfl (lv_at hl 1 rfl) ?_
                exact my_retI hx hb hr hlocks hK hS (wl_k_X4_read cI cJ cK xq q1 xt t1 (nI xq_width_4) qb_13 (nI tz) tf) hP hD (Or.inr (⟨(a + k_12), xq_width_4, qb_13, rfl, rfl, (by first | assumption | omega | trivial | decide +kernel), (by first | assumption | omega | trivial | decide +kernel), ⟨k, by omega, hOk, fun h => (by have h9 := row_no hpA hrow h; first | omega | (have h5 := h9.2.1 (by omega); omega) | (have h5 := h9.2.2 (by omega); omega)), by omega⟩⟩)) dX4_read_81
              ·
                have d67 : ((k_12 : Nat) : Int) ≥ ((xq_width_4 : Nat) : Int) := my_nlt c67 (nI_toInt (by omega)) (nI_toInt (by omega))
                refine lv_aload_n hx hb dX4_read_70 rfl (lv_at hl 5 rfl) ?_
                refine lv_iload_n hx hb dX4_read_71 rfl (lv_at hl 1 rfl) ?_
                refine my_gpI (my_pV (As := [.int (nI (a + k_12))]) (rest := []) (ci := 5) ⟨hx, hb, hml, hown, hts⟩ (cwV 1 hts gX4_read_X5_at rfl rfl rfl (by decide +kernel) ⟨Nat.le_of_ble_eq_true rfl, Nat.le_of_ble_eq_true rfl⟩) hN hK hP [2, 3] rfl 2 rfl rfl rfl rfl hl.1 rfl (Nat.le_of_ble_eq_true rfl) dX4_read_72 ⟨Nat.le_of_ble_eq_true rfl, Nat.le_of_ble_eq_true rfl⟩  (k_X5_at l D cI cJ cK xt t1 tz tf (a + k_12) (by first | assumption | omega | decide +kernel) hR_tf (by first | assumption | omega | decide +kernel))) (fun r hp => ?_)
                rcases hp with ⟨rfl, ha_15⟩ | ⟨rfl, ha_16⟩
                ·
                  refine lv_iload hx hb dX4_read_75 (lv_at hl 0 rfl) ?_
                  have hrt := hR_tf (a + k_12)
                  refine lv_icmp_eq (tgt := 82) hx hb dX4_read_77 (by decide) (fun c77 => ?_) (fun c77 => ?_)
                  ·
                    have d77 : (tf (a + k_12)).toInt = (47 : Int) := my_eq c77 rfl (by decide +kernel)
                    have hkw : k_12 = (plW tf tz) := by first | (rw [hrow, show k = 0 from (by omega)]; exact plW_0 tf tz) | (rcases hQ with h | h; (exact absurd h (by omega)); (omega))
                    refine lv_iinc (v := nI (a + k_12 + 1)) (lv' := [(2, .int (nI (a + k_12 + 1))), (5, .int 47), (4, .int (nI k_12)), (3, .int (nI k)), (0, .ref xq), (1, .ref xt)]) hx hb dX4_read_82 hl (k := 1) rfl (my_incN (a + k_12) 1 (by decide +kernel)) (by decide) rfl (fun ls hl => ?_)
                    refine lv_iinc (v := nI (k + 1)) (lv' := [(3, .int (nI (k + 1))), (2, .int (nI (a + k_12 + 1))), (5, .int 47), (4, .int (nI k_12)), (0, .ref xq), (1, .ref xt)]) hx hb dX4_read_85 hl (k := 3) rfl (my_incN k 1 (by decide +kernel)) (by decide) rfl (fun ls hl => ?_)
                    refine lv_goto (tgt := 4) hx hb dX4_read_88 (by decide) ?_
                    exact ih4  (k + 1) (a + k_12 + 1) xq_width_4 qb_13 (by omega) (by first | assumption | omega | decide +kernel) (by first | assumption | omega | decide +kernel) (by first | assumption | omega | decide +kernel) (by rw [plA_s]; omega) (Or.inr (by omega)) (fun q hq => by rcases Nat.lt_succ_iff_lt_or_eq.mp hq with h | h; (exact hOk q h); (rw [h]; exact row_mk hpA hrow hkw (fun h9 => by first | (exfalso; omega) | exact ⟨by omega, by assumption⟩) (fun h9 => by omega))) (fun q hq => by rcases Nat.lt_succ_iff_lt_or_eq.mp hq with h | h; (rw [hq2r q (by omega)]; exact hqb q h); (rw [h]; exact hq1r.trans (by rw [hpA, hkw]))) (by first | assumption | omega | decide +kernel) _ _ ls hP hD hS (lv_sub hl [0, 1, 4, 5] rfl)
                  ·
                    have d77 : (tf (a + k_12)).toInt ≠ (47 : Int) := my_ne c77 rfl (by decide +kernel)
                    refine lv_iload_n hx hb dX4_read_80 rfl (lv_at hl 1 rfl) ?_
                    exact my_retI hx hb hr hlocks hK hS (wl_k_X4_read cI cJ cK xq q1 xt t1 (nI xq_width_4) qb_13 (nI tz) tf) hP hD (Or.inr (⟨(a + k_12), xq_width_4, qb_13, rfl, rfl, (by first | assumption | omega | trivial | decide +kernel), (by first | assumption | omega | trivial | decide +kernel), ⟨k, by omega, hOk, fun h => (by have h9 := row_no hpA hrow h; first | omega | (have h5 := h9.2.1 (by omega); omega) | (have h5 := h9.2.2 (by omega); omega)), by omega⟩⟩)) dX4_read_81
                ·
                  refine lv_iload hx hb dX4_read_75 (lv_at hl 0 rfl) ?_
                  have hrt := hR_tf (a + k_12)
                  refine lv_icmp_eq (tgt := 82) hx hb dX4_read_77 (by decide) (fun c77 => ?_) (fun c77 => ?_)
                  ·
                    exact absurd c77 (by decide +kernel)
                  ·
                    refine lv_iload_n hx hb dX4_read_80 rfl (lv_at hl 1 rfl) ?_
                    exact my_retI hx hb hr hlocks hK hS (wl_k_X4_read cI cJ cK xq q1 xt t1 (nI xq_width_4) qb_13 (nI tz) tf) hP hD (Or.inr (⟨(a + k_12), xq_width_4, qb_13, rfl, rfl, (by first | assumption | omega | trivial | decide +kernel), (by first | assumption | omega | trivial | decide +kernel), ⟨k, by omega, hOk, fun h => (by have h9 := row_no hpA hrow h; first | omega | (have h5 := h9.2.1 (by omega); omega) | (have h5 := h9.2.2 (by omega); omega)), by omega⟩⟩)) dX4_read_81
            ·
              have d50 : ((k : Nat) : Int) = (7 : Int) := my_eq c50 (nI_toInt (by omega)) (by decide +kernel)
              refine lv_iconst (v := (-1)) hx hb dX4_read_53 (by decide +kernel) ?_
              refine lv_goto (tgt := 59) hx hb dX4_read_54 (by decide) ?_
              refine lv_istore (lv' := [(5, .int (-1)), (2, .int (nI (a + k_12))), (4, .int (nI k_12)), (3, .int (nI k)), (0, .ref xq), (1, .ref xt)]) hx hb dX4_read_59 hl (by decide) rfl (fun ls hl => ?_)
              refine lv_iload hx hb dX4_read_61 (lv_at hl 2 rfl) ?_
              refine lv_aload_n hx hb dX4_read_63 rfl (lv_at hl 4 rfl) ?_
              refine va_get (ci := 4) (v := .int (nI xq_width_4)) (C := RX4) (T := TX4) (N := 2) hx hb hts hi4 hown hK hP 0 rfl rfl 1 (by decide) fl15 (fun _ h9 => h9) rfl dX4_read_64 ?_
              refine lv_icmp_lt (tgt := 80) hx hb dX4_read_67 (by decide) (fun c67 => ?_) (fun c67 => ?_)
              ·
                have d67 : ((k_12 : Nat) : Int) < ((xq_width_4 : Nat) : Int) := my_lt c67 (nI_toInt (by omega)) (nI_toInt (by omega))
                refine lv_iload_n hx hb dX4_read_80 rfl (lv_at hl 1 rfl) ?_
                exact my_retI hx hb hr hlocks hK hS (wl_k_X4_read cI cJ cK xq q1 xt t1 (nI xq_width_4) qb_13 (nI tz) tf) hP hD (Or.inr (⟨(a + k_12), xq_width_4, qb_13, rfl, rfl, (by first | assumption | omega | trivial | decide +kernel), (by first | assumption | omega | trivial | decide +kernel), ⟨k, by omega, hOk, fun h => (by have h9 := row_no hpA hrow h; first | omega | (have h5 := h9.2.1 (by omega); omega) | (have h5 := h9.2.2 (by omega); omega)), by omega⟩⟩)) dX4_read_81
              ·
                have d67 : ((k_12 : Nat) : Int) ≥ ((xq_width_4 : Nat) : Int) := my_nlt c67 (nI_toInt (by omega)) (nI_toInt (by omega))
                refine lv_aload_n hx hb dX4_read_70 rfl (lv_at hl 5 rfl) ?_
                refine lv_iload_n hx hb dX4_read_71 rfl (lv_at hl 1 rfl) ?_
                refine my_gpI (my_pV (As := [.int (nI (a + k_12))]) (rest := []) (ci := 5) ⟨hx, hb, hml, hown, hts⟩ (cwV 1 hts gX4_read_X5_at rfl rfl rfl (by decide +kernel) ⟨Nat.le_of_ble_eq_true rfl, Nat.le_of_ble_eq_true rfl⟩) hN hK hP [2, 3] rfl 2 rfl rfl rfl rfl hl.1 rfl (Nat.le_of_ble_eq_true rfl) dX4_read_72 ⟨Nat.le_of_ble_eq_true rfl, Nat.le_of_ble_eq_true rfl⟩  (k_X5_at l D cI cJ cK xt t1 tz tf (a + k_12) (by first | assumption | omega | decide +kernel) hR_tf (by first | assumption | omega | decide +kernel))) (fun r hp => ?_)
                rcases hp with ⟨rfl, ha_17⟩ | ⟨rfl, ha_18⟩
                ·
                  refine lv_iload hx hb dX4_read_75 (lv_at hl 0 rfl) ?_
                  have hrt := hR_tf (a + k_12)
                  refine lv_icmp_eq (tgt := 82) hx hb dX4_read_77 (by decide) (fun c77 => ?_) (fun c77 => ?_)
                  ·
                    have d77 : (tf (a + k_12)).toInt = (-1 : Int) := my_eq c77 rfl (by decide +kernel)
                    have hkw : k_12 = (plW tf tz) := by first | (rw [hrow, show k = 0 from (by omega)]; exact plW_0 tf tz) | (rcases hQ with h | h; (exact absurd h (by omega)); (omega))
                    refine lv_iinc (v := nI (a + k_12 + 1)) (lv' := [(2, .int (nI (a + k_12 + 1))), (5, .int (-1)), (4, .int (nI k_12)), (3, .int (nI k)), (0, .ref xq), (1, .ref xt)]) hx hb dX4_read_82 hl (k := 1) rfl (my_incN (a + k_12) 1 (by decide +kernel)) (by decide) rfl (fun ls hl => ?_)
                    refine lv_iinc (v := nI (k + 1)) (lv' := [(3, .int (nI (k + 1))), (2, .int (nI (a + k_12 + 1))), (5, .int (-1)), (4, .int (nI k_12)), (0, .ref xq), (1, .ref xt)]) hx hb dX4_read_85 hl (k := 3) rfl (my_incN k 1 (by decide +kernel)) (by decide) rfl (fun ls hl => ?_)
                    refine lv_goto (tgt := 4) hx hb dX4_read_88 (by decide) ?_
                    exact ih4  (k + 1) (a + k_12 + 1) xq_width_4 qb_13 (by omega) (by first | assumption | omega | decide +kernel) (by first | assumption | omega | decide +kernel) (by first | assumption | omega | decide +kernel) (by rw [plA_s]; omega) (Or.inr (by omega)) (fun q hq => by rcases Nat.lt_succ_iff_lt_or_eq.mp hq with h | h; (exact hOk q h); (rw [h]; exact row_mk hpA hrow hkw (fun h9 => by first | (exfalso; omega) | exact ⟨by omega, by assumption⟩) (fun h9 => by omega))) (fun q hq => by rcases Nat.lt_succ_iff_lt_or_eq.mp hq with h | h; (rw [hq2r q (by omega)]; exact hqb q h); (rw [h]; exact hq1r.trans (by rw [hpA, hkw]))) (by first | assumption | omega | decide +kernel) _ _ ls hP hD hS (lv_sub hl [0, 1, 4, 5] rfl)
                  ·
                    have d77 : (tf (a + k_12)).toInt ≠ (-1 : Int) := my_ne c77 rfl (by decide +kernel)
                    refine lv_iload_n hx hb dX4_read_80 rfl (lv_at hl 1 rfl) ?_
                    exact my_retI hx hb hr hlocks hK hS (wl_k_X4_read cI cJ cK xq q1 xt t1 (nI xq_width_4) qb_13 (nI tz) tf) hP hD (Or.inr (⟨(a + k_12), xq_width_4, qb_13, rfl, rfl, (by first | assumption | omega | trivial | decide +kernel), (by first | assumption | omega | trivial | decide +kernel), ⟨k, by omega, hOk, fun h => (by have h9 := row_no hpA hrow h; first | omega | (have h5 := h9.2.1 (by omega); omega) | (have h5 := h9.2.2 (by omega); omega)), by omega⟩⟩)) dX4_read_81
                ·
                  refine lv_iload hx hb dX4_read_75 (lv_at hl 0 rfl) ?_
                  have hrt := hR_tf (a + k_12)
                  refine lv_icmp_eq (tgt := 82) hx hb dX4_read_77 (by decide) (fun c77 => ?_) (fun c77 => ?_)
                  ·
                    have hkw : k_12 = (plW tf tz) := by first | (rw [hrow, show k = 0 from (by omega)]; exact plW_0 tf tz) | (rcases hQ with h | h; (exact absurd h (by omega)); (omega))
                    refine lv_iinc (v := nI (a + k_12 + 1)) (lv' := [(2, .int (nI (a + k_12 + 1))), (5, .int (-1)), (4, .int (nI k_12)), (3, .int (nI k)), (0, .ref xq), (1, .ref xt)]) hx hb dX4_read_82 hl (k := 1) rfl (my_incN (a + k_12) 1 (by decide +kernel)) (by decide) rfl (fun ls hl => ?_)
                    refine lv_iinc (v := nI (k + 1)) (lv' := [(3, .int (nI (k + 1))), (2, .int (nI (a + k_12 + 1))), (5, .int (-1)), (4, .int (nI k_12)), (0, .ref xq), (1, .ref xt)]) hx hb dX4_read_85 hl (k := 3) rfl (my_incN k 1 (by decide +kernel)) (by decide) rfl (fun ls hl => ?_)
                    refine lv_goto (tgt := 4) hx hb dX4_read_88 (by decide) ?_
                    exact ih4  (k + 1) (a + k_12 + 1) xq_width_4 qb_13 (by omega) (by first | assumption | omega | decide +kernel) (by first | assumption | omega | decide +kernel) (by first | assumption | omega | decide +kernel) (by rw [plA_s]; omega) (Or.inr (by omega)) (fun q hq => by rcases Nat.lt_succ_iff_lt_or_eq.mp hq with h | h; (exact hOk q h); (rw [h]; exact row_mk hpA hrow hkw (fun h9 => by first | (exfalso; omega) | exact ⟨by omega, by assumption⟩) (fun h9 => by omega))) (fun q hq => by rcases Nat.lt_succ_iff_lt_or_eq.mp hq with h | h; (rw [hq2r q (by omega)]; exact hqb q h); (rw [h]; exact hq1r.trans (by rw [hpA, hkw]))) (by first | assumption | omega | decide +kernel) _ _ ls hP hD hS (lv_sub hl [0, 1, 4, 5] rfl)
                  ·
                    exact absurd c77 (by decide +kernel)
          ·
            have d38 : ((k : Nat) : Int) = (0 : Int) := my_eq c38 (nI_toInt (by omega)) (by decide +kernel)
            refine lv_aload_n hx hb dX4_read_41 rfl (lv_at hl 3 rfl) ?_
            refine lv_iload hx hb dX4_read_42 (lv_at hl 1 rfl) ?_
            refine va_put (ci := 4) (v := .int (nI k_12)) (ty := (.int)) (C := RX4) (T := TX4) (N := 2) hx hb hts hi4 tyX4 tyX4_ok nmX4 hown hK hP hD hS 0 rfl rfl 1 (by decide) fl15 (fun _ h9 => h9) rfl (by decide +kernel) rfl rfl (Nat.le_of_ble_eq_true rfl) dX4_read_44 (fun H locs hP hD hS => ?_)
            have hP : va_P D vwCl (wl_k_X4_read cI cJ cK xq q1 xt t1 (nI k_12) qb_13 (nI tz) tf) H := hP
            have hD : va_D A (wl_k_X4_read cI cJ cK xq q1 xt t1 (nI k_12) qb_13 (nI tz) tf) := hD
            have hwle := plW_le tf tz
            have hrow : k_12 = blen tf tz (plW tf tz) (plA (plW tf tz) k) := by first | (rw [hkb, hpA, show k = 0 from (by omega), plW_0, plA_0]; rfl) | (rcases hQ with h | h; (exact absurd h (by omega)); (rw [hkb, h, hpA]))
            refine lv_iload_n hx hb dX4_read_47 rfl (lv_at hl 2 rfl) ?_
            refine lv_bipush (v := 7) hx hb dX4_read_48 (by decide +kernel) ?_
            refine lv_icmp_ne (tgt := 57) hx hb dX4_read_50 (by decide) (fun c50 => ?_) (fun c50 => ?_)
            ·
              have d50 : ((k : Nat) : Int) ≠ (7 : Int) := my_ne c50 (nI_toInt (by omega)) (by decide +kernel)
              refine lv_bipush (v := 47) hx hb dX4_read_57 (by decide +kernel) ?_
              refine lv_istore (lv' := [(5, .int 47), (2, .int (nI (a + k_12))), (4, .int (nI k_12)), (3, .int (nI k)), (0, .ref xq), (1, .ref xt)]) hx hb dX4_read_59 hl (by decide) rfl (fun ls hl => ?_)
              refine lv_iload hx hb dX4_read_61 (lv_at hl 2 rfl) ?_
              refine lv_aload_n hx hb dX4_read_63 rfl (lv_at hl 4 rfl) ?_
              refine va_get (ci := 4) (v := .int (nI k_12)) (C := RX4) (T := TX4) (N := 2) hx hb hts hi4 hown hK hP 0 rfl rfl 1 (by decide) fl15 (fun _ h9 => h9) rfl dX4_read_64 ?_
              refine lv_icmp_lt (tgt := 80) hx hb dX4_read_67 (by decide) (fun c67 => ?_) (fun c67 => ?_)
              ·
                have d67 : ((k_12 : Nat) : Int) < ((k_12 : Nat) : Int) := my_lt c67 (nI_toInt (by omega)) (nI_toInt (by omega))
                refine lv_iload_n hx hb dX4_read_80 rfl (lv_at hl 1 rfl) ?_
                exact my_retI hx hb hr hlocks hK hS (wl_k_X4_read cI cJ cK xq q1 xt t1 (nI k_12) qb_13 (nI tz) tf) hP hD (Or.inr (⟨(a + k_12), k_12, qb_13, rfl, rfl, (by first | assumption | omega | trivial | decide +kernel), (by first | assumption | omega | trivial | decide +kernel), ⟨k, by omega, hOk, fun h => (by have h9 := row_no hpA hrow h; first | omega | (have h5 := h9.2.1 (by omega); omega) | (have h5 := h9.2.2 (by omega); omega)), by omega⟩⟩)) dX4_read_81
              ·
                have d67 : ((k_12 : Nat) : Int) ≥ ((k_12 : Nat) : Int) := my_nlt c67 (nI_toInt (by omega)) (nI_toInt (by omega))
                refine lv_aload_n hx hb dX4_read_70 rfl (lv_at hl 5 rfl) ?_
                refine lv_iload_n hx hb dX4_read_71 rfl (lv_at hl 1 rfl) ?_
                refine my_gpI (my_pV (As := [.int (nI (a + k_12))]) (rest := []) (ci := 5) ⟨hx, hb, hml, hown, hts⟩ (cwV 1 hts gX4_read_X5_at rfl rfl rfl (by decide +kernel) ⟨Nat.le_of_ble_eq_true rfl, Nat.le_of_ble_eq_true rfl⟩) hN hK hP [2, 3] rfl 2 rfl rfl rfl rfl hl.1 rfl (Nat.le_of_ble_eq_true rfl) dX4_read_72 ⟨Nat.le_of_ble_eq_true rfl, Nat.le_of_ble_eq_true rfl⟩  (k_X5_at l D cI cJ cK xt t1 tz tf (a + k_12) (by first | assumption | omega | decide +kernel) hR_tf (by first | assumption | omega | decide +kernel))) (fun r hp => ?_)
                rcases hp with ⟨rfl, ha_19⟩ | ⟨rfl, ha_20⟩
                ·
                  refine lv_iload hx hb dX4_read_75 (lv_at hl 0 rfl) ?_
                  have hrt := hR_tf (a + k_12)
                  refine lv_icmp_eq (tgt := 82) hx hb dX4_read_77 (by decide) (fun c77 => ?_) (fun c77 => ?_)
                  ·
                    have d77 : (tf (a + k_12)).toInt = (47 : Int) := my_eq c77 rfl (by decide +kernel)
                    have hkw : k_12 = (plW tf tz) := by first | (rw [hrow, show k = 0 from (by omega)]; exact plW_0 tf tz) | (rcases hQ with h | h; (exact absurd h (by omega)); (omega))
                    refine lv_iinc (v := nI (a + k_12 + 1)) (lv' := [(2, .int (nI (a + k_12 + 1))), (5, .int 47), (4, .int (nI k_12)), (3, .int (nI k)), (0, .ref xq), (1, .ref xt)]) hx hb dX4_read_82 hl (k := 1) rfl (my_incN (a + k_12) 1 (by decide +kernel)) (by decide) rfl (fun ls hl => ?_)
                    refine lv_iinc (v := nI (k + 1)) (lv' := [(3, .int (nI (k + 1))), (2, .int (nI (a + k_12 + 1))), (5, .int 47), (4, .int (nI k_12)), (0, .ref xq), (1, .ref xt)]) hx hb dX4_read_85 hl (k := 3) rfl (my_incN k 1 (by decide +kernel)) (by decide) rfl (fun ls hl => ?_)
                    refine lv_goto (tgt := 4) hx hb dX4_read_88 (by decide) ?_
                    exact ih4  (k + 1) (a + k_12 + 1) k_12 qb_13 (by omega) (by first | assumption | omega | decide +kernel) (by first | assumption | omega | decide +kernel) (by first | assumption | omega | decide +kernel) (by rw [plA_s]; omega) (Or.inr (by omega)) (fun q hq => by rcases Nat.lt_succ_iff_lt_or_eq.mp hq with h | h; (exact hOk q h); (rw [h]; exact row_mk hpA hrow hkw (fun h9 => by first | (exfalso; omega) | exact ⟨by omega, by assumption⟩) (fun h9 => by omega))) (fun q hq => by rcases Nat.lt_succ_iff_lt_or_eq.mp hq with h | h; (rw [hq2r q (by omega)]; exact hqb q h); (rw [h]; exact hq1r.trans (by rw [hpA, hkw]))) (by first | assumption | omega | decide +kernel) _ _ ls hP hD hS (lv_sub hl [0, 1, 4, 5] rfl)
                  ·
                    have d77 : (tf (a + k_12)).toInt ≠ (47 : Int) := my_ne c77 rfl (by decide +kernel)
                    refine lv_iload_n hx hb dX4_read_80 rfl (lv_at hl 1 rfl) ?_
                    exact my_retI hx hb hr hlocks hK hS (wl_k_X4_read cI cJ cK xq q1 xt t1 (nI k_12) qb_13 (nI tz) tf) hP hD (Or.inr (⟨(a + k_12), k_12, qb_13, rfl, rfl, (by first | assumption | omega | trivial | decide +kernel), (by first | assumption | omega | trivial | decide +kernel), ⟨k, by omega, hOk, fun h => (by have h9 := row_no hpA hrow h; first | omega | (have h5 := h9.2.1 (by omega); omega) | (have h5 := h9.2.2 (by omega); omega)), by omega⟩⟩)) dX4_read_81
                ·
                  refine lv_iload hx hb dX4_read_75 (lv_at hl 0 rfl) ?_
                  have hrt := hR_tf (a + k_12)
                  refine lv_icmp_eq (tgt := 82) hx hb dX4_read_77 (by decide) (fun c77 => ?_) (fun c77 => ?_)
                  ·
                    exact absurd c77 (by decide +kernel)
                  ·
                    refine lv_iload_n hx hb dX4_read_80 rfl (lv_at hl 1 rfl) ?_
                    exact my_retI hx hb hr hlocks hK hS (wl_k_X4_read cI cJ cK xq q1 xt t1 (nI k_12) qb_13 (nI tz) tf) hP hD (Or.inr (⟨(a + k_12), k_12, qb_13, rfl, rfl, (by first | assumption | omega | trivial | decide +kernel), (by first | assumption | omega | trivial | decide +kernel), ⟨k, by omega, hOk, fun h => (by have h9 := row_no hpA hrow h; first | omega | (have h5 := h9.2.1 (by omega); omega) | (have h5 := h9.2.2 (by omega); omega)), by omega⟩⟩)) dX4_read_81
            ·
              have d50 : ((k : Nat) : Int) = (7 : Int) := my_eq c50 (nI_toInt (by omega)) (by decide +kernel)
              refine lv_iconst (v := (-1)) hx hb dX4_read_53 (by decide +kernel) ?_
              refine lv_goto (tgt := 59) hx hb dX4_read_54 (by decide) ?_
              refine lv_istore (lv' := [(5, .int (-1)), (2, .int (nI (a + k_12))), (4, .int (nI k_12)), (3, .int (nI k)), (0, .ref xq), (1, .ref xt)]) hx hb dX4_read_59 hl (by decide) rfl (fun ls hl => ?_)
              refine lv_iload hx hb dX4_read_61 (lv_at hl 2 rfl) ?_
              refine lv_aload_n hx hb dX4_read_63 rfl (lv_at hl 4 rfl) ?_
              refine va_get (ci := 4) (v := .int (nI k_12)) (C := RX4) (T := TX4) (N := 2) hx hb hts hi4 hown hK hP 0 rfl rfl 1 (by decide) fl15 (fun _ h9 => h9) rfl dX4_read_64 ?_
              refine lv_icmp_lt (tgt := 80) hx hb dX4_read_67 (by decide) (fun c67 => ?_) (fun c67 => ?_)
              ·
                have d67 : ((k_12 : Nat) : Int) < ((k_12 : Nat) : Int) := my_lt c67 (nI_toInt (by omega)) (nI_toInt (by omega))
                refine lv_iload_n hx hb dX4_read_80 rfl (lv_at hl 1 rfl) ?_
                exact my_retI hx hb hr hlocks hK hS (wl_k_X4_read cI cJ cK xq q1 xt t1 (nI k_12) qb_13 (nI tz) tf) hP hD (Or.inr (⟨(a + k_12), k_12, qb_13, rfl, rfl, (by first | assumption | omega | trivial | decide +kernel), (by first | assumption | omega | trivial | decide +kernel), ⟨k, by omega, hOk, fun h => (by have h9 := row_no hpA hrow h; first | omega | (have h5 := h9.2.1 (by omega); omega) | (have h5 := h9.2.2 (by omega); omega)), by omega⟩⟩)) dX4_read_81
              ·
                have d67 : ((k_12 : Nat) : Int) ≥ ((k_12 : Nat) : Int) := my_nlt c67 (nI_toInt (by omega)) (nI_toInt (by omega))
                refine lv_aload_n hx hb dX4_read_70 rfl (lv_at hl 5 rfl) ?_
                refine lv_iload_n hx hb dX4_read_71 rfl (lv_at hl 1 rfl) ?_
                refine my_gpI (my_pV (As := [.int (nI (a + k_12))]) (rest := []) (ci := 5) ⟨hx, hb, hml, hown, hts⟩ (cwV 1 hts gX4_read_X5_at rfl rfl rfl (by decide +kernel) ⟨Nat.le_of_ble_eq_true rfl, Nat.le_of_ble_eq_true rfl⟩) hN hK hP [2, 3] rfl 2 rfl rfl rfl rfl hl.1 rfl (Nat.le_of_ble_eq_true rfl) dX4_read_72 ⟨Nat.le_of_ble_eq_true rfl, Nat.le_of_ble_eq_true rfl⟩  (k_X5_at l D cI cJ cK xt t1 tz tf (a + k_12) (by first | assumption | omega | decide +kernel) hR_tf (by first | assumption | omega | decide +kernel))) (fun r hp => ?_)
                rcases hp with ⟨rfl, ha_21⟩ | ⟨rfl, ha_22⟩
                ·
                  refine lv_iload hx hb dX4_read_75 (lv_at hl 0 rfl) ?_
                  have hrt := hR_tf (a + k_12)
                  refine lv_icmp_eq (tgt := 82) hx hb dX4_read_77 (by decide) (fun c77 => ?_) (fun c77 => ?_)
                  ·
                    have d77 : (tf (a + k_12)).toInt = (-1 : Int) := my_eq c77 rfl (by decide +kernel)
                    have hkw : k_12 = (plW tf tz) := by first | (rw [hrow, show k = 0 from (by omega)]; exact plW_0 tf tz) | (rcases hQ with h | h; (exact absurd h (by omega)); (omega))
                    refine lv_iinc (v := nI (a + k_12 + 1)) (lv' := [(2, .int (nI (a + k_12 + 1))), (5, .int (-1)), (4, .int (nI k_12)), (3, .int (nI k)), (0, .ref xq), (1, .ref xt)]) hx hb dX4_read_82 hl (k := 1) rfl (my_incN (a + k_12) 1 (by decide +kernel)) (by decide) rfl (fun ls hl => ?_)
                    refine lv_iinc (v := nI (k + 1)) (lv' := [(3, .int (nI (k + 1))), (2, .int (nI (a + k_12 + 1))), (5, .int (-1)), (4, .int (nI k_12)), (0, .ref xq), (1, .ref xt)]) hx hb dX4_read_85 hl (k := 3) rfl (my_incN k 1 (by decide +kernel)) (by decide) rfl (fun ls hl => ?_)
                    refine lv_goto (tgt := 4) hx hb dX4_read_88 (by decide) ?_
                    exact ih4  (k + 1) (a + k_12 + 1) k_12 qb_13 (by omega) (by first | assumption | omega | decide +kernel) (by first | assumption | omega | decide +kernel) (by first | assumption | omega | decide +kernel) (by rw [plA_s]; omega) (Or.inr (by omega)) (fun q hq => by rcases Nat.lt_succ_iff_lt_or_eq.mp hq with h | h; (exact hOk q h); (rw [h]; exact row_mk hpA hrow hkw (fun h9 => by first | (exfalso; omega) | exact ⟨by omega, by assumption⟩) (fun h9 => by omega))) (fun q hq => by rcases Nat.lt_succ_iff_lt_or_eq.mp hq with h | h; (rw [hq2r q (by omega)]; exact hqb q h); (rw [h]; exact hq1r.trans (by rw [hpA, hkw]))) (by first | assumption | omega | decide +kernel) _ _ ls hP hD hS (lv_sub hl [0, 1, 4, 5] rfl)
                  ·
                    have d77 : (tf (a + k_12)).toInt ≠ (-1 : Int) := my_ne c77 rfl (by decide +kernel)
                    refine lv_iload_n hx hb dX4_read_80 rfl (lv_at hl 1 rfl) ?_
                    exact my_retI hx hb hr hlocks hK hS (wl_k_X4_read cI cJ cK xq q1 xt t1 (nI k_12) qb_13 (nI tz) tf) hP hD (Or.inr (⟨(a + k_12), k_12, qb_13, rfl, rfl, (by first | assumption | omega | trivial | decide +kernel), (by first | assumption | omega | trivial | decide +kernel), ⟨k, by omega, hOk, fun h => (by have h9 := row_no hpA hrow h; first | omega | (have h5 := h9.2.1 (by omega); omega) | (have h5 := h9.2.2 (by omega); omega)), by omega⟩⟩)) dX4_read_81
                ·
                  refine lv_iload hx hb dX4_read_75 (lv_at hl 0 rfl) ?_
                  have hrt := hR_tf (a + k_12)
                  refine lv_icmp_eq (tgt := 82) hx hb dX4_read_77 (by decide) (fun c77 => ?_) (fun c77 => ?_)
                  ·
                    have hkw : k_12 = (plW tf tz) := by first | (rw [hrow, show k = 0 from (by omega)]; exact plW_0 tf tz) | (rcases hQ with h | h; (exact absurd h (by omega)); (omega))
                    refine lv_iinc (v := nI (a + k_12 + 1)) (lv' := [(2, .int (nI (a + k_12 + 1))), (5, .int (-1)), (4, .int (nI k_12)), (3, .int (nI k)), (0, .ref xq), (1, .ref xt)]) hx hb dX4_read_82 hl (k := 1) rfl (my_incN (a + k_12) 1 (by decide +kernel)) (by decide) rfl (fun ls hl => ?_)
                    refine lv_iinc (v := nI (k + 1)) (lv' := [(3, .int (nI (k + 1))), (2, .int (nI (a + k_12 + 1))), (5, .int (-1)), (4, .int (nI k_12)), (0, .ref xq), (1, .ref xt)]) hx hb dX4_read_85 hl (k := 3) rfl (my_incN k 1 (by decide +kernel)) (by decide) rfl (fun ls hl => ?_)
                    refine lv_goto (tgt := 4) hx hb dX4_read_88 (by decide) ?_
                    exact ih4  (k + 1) (a + k_12 + 1) k_12 qb_13 (by omega) (by first | assumption | omega | decide +kernel) (by first | assumption | omega | decide +kernel) (by first | assumption | omega | decide +kernel) (by rw [plA_s]; omega) (Or.inr (by omega)) (fun q hq => by rcases Nat.lt_succ_iff_lt_or_eq.mp hq with h | h; (exact hOk q h); (rw [h]; exact row_mk hpA hrow hkw (fun h9 => by first | (exfalso; omega) | exact ⟨by omega, by assumption⟩) (fun h9 => by omega))) (fun q hq => by rcases Nat.lt_succ_iff_lt_or_eq.mp hq with h | h; (rw [hq2r q (by omega)]; exact hqb q h); (rw [h]; exact hq1r.trans (by rw [hpA, hkw]))) (by first | assumption | omega | decide +kernel) _ _ ls hP hD hS (lv_sub hl [0, 1, 4, 5] rfl)
                  ·
                    exact absurd c77 (by decide +kernel)
  exact loop4 ((8 - 0) + 1) 0 0 qw qb (Nat.lt_succ_self _) (by first | assumption | omega | decide +kernel) (by first | assumption | omega | decide +kernel) (by first | assumption | omega | decide +kernel) ((plA_0 _).symm) (by first | assumption | omega | decide +kernel) (fun q h => absurd h (Nat.not_lt_zero q)) (fun q h => absurd h (Nat.not_lt_zero q)) (by first | assumption | omega | decide +kernel) _ _ ls hP hD hS (lv_sub hl [0, 1, 2, 3] rfl)
