set_option maxHeartbeats 4000000 in
set_option maxRecDepth 100000 in
theorem k_X3_isDigit (l : Launch) (D : va_G) (cI cJ cK : ClassId) (v9 : Int32) (A_v9 : Int) (hA_v9 : v9.toInt = A_v9) : cpI l yX3_isDigit wsX3_isDigit ({ frames := 0, cells := 0, slots := 0, locals := 0 } : Room) D (tyIJ cI cJ cK) [.int v9] [] (fun (r : Int32) => (r = 1 ∧ 48 ≤ A_v9 ∧ A_v9 ≤ 57) ∨ (r = 0 ∧ (A_v9 < 48 ∨ 57 < A_v9))) := by
  refine cpI.of (cc := cX3_isDigit) (maxL := 1) (ret := (some .boolean)) (by decide) rfl (Nat.le_of_ble_eq_true rfl) ?_
  intro p e s m below meth c ls hx hb hr hts hown hml hlocks hname hK hN hP hl
  have hl : lv_has ls 1 [(0, .int v9)] := hl
  have hown : s.vm.findClass RX3 = some m.cls := hown
  refine lv_iload_n hx hb dX3_isDigit_0 rfl (lv_at hl 0 rfl) ?_
  refine lv_bipush (v := 48) hx hb dX3_isDigit_1 (by decide +kernel) ?_
  refine lv_icmp_lt (tgt := 16) hx hb dX3_isDigit_3 (by decide) (fun c3 => ?_) (fun c3 => ?_)
  ·
    have d3 : v9.toInt < (48 : Int) := my_lt c3 rfl (by decide +kernel)
    refine lv_iconst (v := 0) hx hb dX3_isDigit_16 (by decide +kernel) ?_
    exact my_rpZ hx hb hr hlocks (by decide +kernel) (Or.inr (⟨rfl, (by first | assumption | omega | trivial | decide +kernel)⟩)) dX3_isDigit_17
  ·
    have d3 : v9.toInt ≥ (48 : Int) := my_nlt c3 rfl (by decide +kernel)
    refine lv_iload_n hx hb dX3_isDigit_6 rfl (lv_at hl 0 rfl) ?_
    refine lv_bipush (v := 57) hx hb dX3_isDigit_7 (by decide +kernel) ?_
    refine lv_icmp_gt (tgt := 16) hx hb dX3_isDigit_9 (by decide) (fun c9 => ?_) (fun c9 => ?_)
    ·
      have d9 : v9.toInt > (57 : Int) := my_gt c9 rfl (by decide +kernel)
      refine lv_iconst (v := 0) hx hb dX3_isDigit_16 (by decide +kernel) ?_
      exact my_rpZ hx hb hr hlocks (by decide +kernel) (Or.inr (⟨rfl, (by first | assumption | omega | trivial | decide +kernel)⟩)) dX3_isDigit_17
    ·
      have d9 : v9.toInt ≤ (57 : Int) := my_ngt c9 rfl (by decide +kernel)
      refine lv_iconst (v := 1) hx hb dX3_isDigit_12 (by decide +kernel) ?_
      refine lv_goto (tgt := 17) hx hb dX3_isDigit_13 (by decide) ?_
      exact my_rpZ hx hb hr hlocks (by decide +kernel) (Or.inl ⟨rfl, (by first | assumption | omega | trivial | decide +kernel), (by first | assumption | omega | trivial | decide +kernel)⟩) dX3_isDigit_17
set_option maxHeartbeats 4000000 in
set_option maxRecDepth 100000 in
theorem k_X4_isBit (l : Launch) (D : va_G) (cI cJ cK : ClassId) (v9 : Int32) (A_v9 : Int) (hA_v9 : v9.toInt = A_v9) : cpI l yX4_isBit wsX4_isBit ({ frames := 0, cells := 0, slots := 0, locals := 0 } : Room) D (tyIJ cI cJ cK) [.int v9] [] (fun (r : Int32) => (r = 1 ∧ 48 ≤ A_v9 ∧ A_v9 ≤ 49) ∨ (r = 0 ∧ (A_v9 < 48 ∨ 49 < A_v9))) := by
  refine cpI.of (cc := cX4_isBit) (maxL := 1) (ret := (some .boolean)) (by decide) rfl (Nat.le_of_ble_eq_true rfl) ?_
  intro p e s m below meth c ls hx hb hr hts hown hml hlocks hname hK hN hP hl
  have hl : lv_has ls 1 [(0, .int v9)] := hl
  have hown : s.vm.findClass RX4 = some m.cls := hown
  refine lv_iload_n hx hb dX4_isBit_0 rfl (lv_at hl 0 rfl) ?_
  refine lv_bipush (v := 48) hx hb dX4_isBit_1 (by decide +kernel) ?_
  refine lv_icmp_eq (tgt := 12) hx hb dX4_isBit_3 (by decide) (fun c3 => ?_) (fun c3 => ?_)
  ·
    have d3 : v9.toInt = (48 : Int) := my_eq c3 rfl (by decide +kernel)
    refine lv_iconst (v := 1) hx hb dX4_isBit_12 (by decide +kernel) ?_
    refine lv_goto (tgt := 17) hx hb dX4_isBit_13 (by decide) ?_
    exact my_rpZ hx hb hr hlocks (by decide +kernel) (Or.inl ⟨rfl, (by first | assumption | omega | trivial | decide +kernel), (by first | assumption | omega | trivial | decide +kernel)⟩) dX4_isBit_17
  ·
    have d3 : v9.toInt ≠ (48 : Int) := my_ne c3 rfl (by decide +kernel)
    refine lv_iload_n hx hb dX4_isBit_6 rfl (lv_at hl 0 rfl) ?_
    refine lv_bipush (v := 49) hx hb dX4_isBit_7 (by decide +kernel) ?_
    refine lv_icmp_ne (tgt := 16) hx hb dX4_isBit_9 (by decide) (fun c9 => ?_) (fun c9 => ?_)
    ·
      have d9 : v9.toInt ≠ (49 : Int) := my_ne c9 rfl (by decide +kernel)
      refine lv_iconst (v := 0) hx hb dX4_isBit_16 (by decide +kernel) ?_
      exact my_rpZ hx hb hr hlocks (by decide +kernel) (Or.inr (⟨rfl, (by first | assumption | omega | trivial | decide +kernel)⟩)) dX4_isBit_17
    ·
      have d9 : v9.toInt = (49 : Int) := my_eq c9 rfl (by decide +kernel)
      refine lv_iconst (v := 1) hx hb dX4_isBit_12 (by decide +kernel) ?_
      refine lv_goto (tgt := 17) hx hb dX4_isBit_13 (by decide) ?_
      exact my_rpZ hx hb hr hlocks (by decide +kernel) (Or.inl ⟨rfl, (by first | assumption | omega | trivial | decide +kernel), (by first | assumption | omega | trivial | decide +kernel)⟩) dX4_isBit_17
abbrev wl_k_X3_readDigits (cI cJ cK : ClassId) (xp : Nat) (p1 : Nat) (xt : Nat) (t1 : Nat) (v0_ : Int32) (v1_ : Int32) (v2_ : Int32) (v3_ : Nat → Int32) : va_W := [(xp, .inr (3, [.ref p1, .int v0_, .int v1_])), (xt, .inr (5, [.ref t1, .int v2_])), (t1, .inl (cI, 100, .inl v3_))]
set_option maxHeartbeats 4000000 in
set_option maxRecDepth 100000 in
theorem k_X3_readDigits (l : Launch) (D : va_G) (cI cJ cK : ClassId) (xp : Nat) (p1 : Nat) (xt : Nat) (t1 : Nat) (pz : Nat) (pa : Nat) (tz : Nat) (tf : Nat → Int32) (dn : Nat) (lo : Nat) (hi : Nat) (hz_pz : pz ≤ 64) (hz_pa : pa ≤ 100) (hz_tz : tz ≤ 100) (hR_tf : RB 0 255 tf) (hd3 : dn ≤ 3) (hh9 : hi ≤ 255) (hlo : lo ≤ 255) (hpa : pa ≤ tz) : ctI l yX3_readDigits wsX3_readDigits ({ frames := 1, cells := 0, slots := 0, locals := 60 } : Room) D (tyIJ cI cJ cK) [.ref xp, .ref xt, .int (nI dn), .int (nI lo), .int (nI hi)] (wl_k_X3_readDigits cI cJ cK xp p1 xt t1 (nI pz) (nI pa) (nI tz) tf) (fun (r : Int32) (u : va_W) => (∃ (v' : Nat) (pa' : Nat), u = (wl_k_X3_readDigits cI cJ cK xp p1 xt t1 (nI pz) (nI pa') (nI tz) tf) ∧ r = nI v' ∧ pa' ≤ 100 ∧ nmOk tf tz dn lo hi pa ∧ v' = rdV tf tz dn pa 0 ∧ pa' = rdE tf tz dn pa ∧ pa' ≤ tz ∧ pa ≤ pa' ∧ lo ≤ v' ∧ v' ≤ hi) ∨ (∃ (pa' : Nat), u = (wl_k_X3_readDigits cI cJ cK xp p1 xt t1 (nI pz) (nI pa') (nI tz) tf) ∧ r = (-1) ∧ pa' ≤ 100 ∧ ¬ nmOk tf tz dn lo hi pa ∧ pa' ≤ tz ∧ pa ≤ pa')) := by
  refine ctI.of (cc := cX3_readDigits) (maxL := 7) (ret := (some .int)) (by decide) rfl (Nat.le_of_ble_eq_true rfl) ?_
  intro p e s m below meth c ls A hx hb hr hts hown hml hlocks hname hA hK hN hP hD hS hl
  have hl : lv_has ls 7 [(0, .ref xp), (1, .ref xt), (2, .int (nI dn)), (3, .int (nI lo)), (4, .int (nI hi))] := hl
  have hown : s.vm.findClass RX3 = some m.cls := hown
  have hi3 : ∀ w ∈ u_ws RX3 TX3 3, w ∈ wsX3_readDigits := by decide +kernel
  have fl19 := hts (.fieldLink RX3 19 "PlaneColumn$PartReader" "at" "I") (by decide +kernel)
  refine lv_iconst (v := 0) hx hb dX3_readDigits_0 (by decide +kernel) ?_
  refine lv_istore (lv' := [(5, .int 0), (0, .ref xp), (1, .ref xt), (2, .int (nI dn)), (3, .int (nI lo)), (4, .int (nI hi))]) hx hb dX3_readDigits_1 hl (by decide) rfl (fun ls hl => ?_)
  refine lv_iconst (v := 0) hx hb dX3_readDigits_3 (by decide +kernel) ?_
  refine lv_istore (lv' := [(6, .int 0), (5, .int 0), (0, .ref xp), (1, .ref xt), (2, .int (nI dn)), (3, .int (nI lo)), (4, .int (nI hi))]) hx hb dX3_readDigits_4 hl (by decide) rfl (fun ls hl => ?_)
  have loop6 : ∀ (n9 : Nat) (k : Nat) (v : Nat) (xp_at_6 : Nat), 3 - k < n9 → (v ≤ 999) → (k ≤ 3) → (k ≤ dn) → (xp_at_6 = pa + k) → (xp_at_6 ≤ tz) → (v < 10 ^ k) → (rdE tf tz dn pa = rdE tf tz (dn - k) xp_at_6) → (rdV tf tz dn pa 0 = rdV tf tz (dn - k) xp_at_6 v) → (xp_at_6 ≤ 100) → ∀ (H : Heap) (locs : List Loc) (ls : Array Slot), va_P D vwCl (wl_k_X3_readDigits cI cJ cK xp p1 xt t1 (nI pz) (nI xp_at_6) (nI tz) tf) H → va_D A (wl_k_X3_readDigits cI cJ cK xp p1 xt t1 (nI pz) (nI xp_at_6) (nI tz) tf) → va_S A s.heap H locs → lv_has ls 7 [(6, .int (nI k)), (5, .int (nI v)), (0, .ref xp), (1, .ref xt), (2, .int (nI dn)), (3, .int (nI lo)), (4, .int (nI hi))] → W p l e ({ frames := 1, cells := 0, slots := 0, locals := 60 } : Room) s m [.ref xp, .ref xt, .int (nI dn), .int (nI lo), .int (nI hi)].toArray below meth c H locs 0 0 (MQ below (va_Qi (fun (r : Int32) (u : va_W) => (∃ (v' : Nat) (pa' : Nat), u = (wl_k_X3_readDigits cI cJ cK xp p1 xt t1 (nI pz) (nI pa') (nI tz) tf) ∧ r = nI v' ∧ pa' ≤ 100 ∧ nmOk tf tz dn lo hi pa ∧ v' = rdV tf tz dn pa 0 ∧ pa' = rdE tf tz dn pa ∧ pa' ≤ tz ∧ pa ≤ pa' ∧ lo ≤ v' ∧ v' ≤ hi) ∨ (∃ (pa' : Nat), u = (wl_k_X3_readDigits cI cJ cK xp p1 xt t1 (nI pz) (nI pa') (nI tz) tf) ∧ r = (-1) ∧ pa' ≤ 100 ∧ ¬ nmOk tf tz dn lo hi pa ∧ pa' ≤ tz ∧ pa ≤ pa')) (my_B D (tyIJ cI cJ cK) A) A) [.ref xp, .ref xt, .int (nI dn), .int (nI lo), .int (nI hi)].toArray s 0 0 A) (F0 m 6 ls []) := by
    intro n9
    induction n9 with
    | zero =>
      intro k v xp_at_6 hn9
      exact absurd hn9 (Nat.not_lt_zero _)
    | succ n9 ih6 =>
      intro k v xp_at_6 hn9 hk_v hk_k hkD hat hat2 hv10 hE hV hz_xp_at_6 H locs ls hP hD hS hl
      have hp10 := my_p10 (k := k) (by omega)
      have hp11 : 10 ^ (k + 1) = 10 ^ k * 10 := Nat.pow_succ ..
      have hp12 : 3 ≤ k ∨ 10 ^ (k + 1) ≤ 1000 := (Nat.lt_or_ge k 3).elim (fun h => Or.inr (my_p10 (k := k + 1) h).2) Or.inl
      refine lv_iload hx hb dX3_readDigits_6 (lv_at hl 0 rfl) ?_
      refine lv_iload_n hx hb dX3_readDigits_8 rfl (lv_at hl 4 rfl) ?_
      refine lv_icmp_ge (tgt := 61) hx hb dX3_readDigits_9 (by decide) (fun c9 => ?_) (fun c9 => ?_)
      ·
        have d9 : ((k : Nat) : Int) ≥ ((dn : Nat) : Int) := my_ge c9 (nI_toInt (by omega)) (nI_toInt (by omega))
        have hex := rd_exit (f := tf) (n := tz) (d := dn) (k := k) (a := xp_at_6) (v := v) (by first | (left; omega) | (right; exact dgt_no (by omega)))
        refine lv_iload hx hb dX3_readDigits_61 (lv_at hl 0 rfl) ?_
        refine lv_if_ne (tgt := 68) hx hb dX3_readDigits_63 (by decide) (fun c63 => ?_) (fun c63 => ?_)
        ·
          have d63 : ((k : Nat) : Int) ≠ (0 : Int) := my_ne c63 (nI_toInt (by omega)) (by decide +kernel)
          refine lv_iload hx hb dX3_readDigits_68 (lv_at hl 1 rfl) ?_
          refine lv_iload_n hx hb dX3_readDigits_70 rfl (lv_at hl 5 rfl) ?_
          refine lv_icmp_lt (tgt := 81) hx hb dX3_readDigits_71 (by decide) (fun c71 => ?_) (fun c71 => ?_)
          ·
            have d71 : ((v : Nat) : Int) < ((lo : Nat) : Int) := my_lt c71 (nI_toInt (by omega)) (nI_toInt (by omega))
            refine lv_aload_n hx hb dX3_readDigits_81 rfl (lv_at hl 2 rfl) ?_
            refine lv_dup hx hb dX3_readDigits_82 rfl ?_
            refine va_get (ci := 3) (v := .int (nI xp_at_6)) (C := RX3) (T := TX3) (N := 3) hx hb hts hi3 hown hK hP 0 rfl rfl 2 (by decide) fl19 (fun _ h9 => h9) rfl dX3_readDigits_83 ?_
            refine lv_iconst (v := 1) hx hb dX3_readDigits_86 (by decide +kernel) ?_
            refine lv_isub hx hb dX3_readDigits_87 ?_
            refine lv_topi (fun z_1 ez_1 => ?_)
            try have tz_1 : z_1.toInt = ((xp_at_6 : Nat) : Int) - (1 : Int) := by rw [ez_1]; exact my_subI (nI_toInt (by omega)) (by decide +kernel) (by omega) (by omega)
            obtain ⟨w_2, ew_2, hw_2⟩ : ∃ w : Nat, z_1 = nI w ∧ (w : Int) = (z_1 : Int32).toInt := my_natE (by omega)
            refine my_eqi (y := nI w_2) ew_2 ?_
            refine va_put (ci := 3) (v := .int (nI w_2)) (ty := (.int)) (C := RX3) (T := TX3) (N := 3) hx hb hts hi3 tyX3 tyX3_ok nmX3 hown hK hP hD hS 0 rfl rfl 2 (by decide) fl19 (fun _ h9 => h9) rfl (by decide +kernel) rfl rfl (Nat.le_of_ble_eq_true rfl) dX3_readDigits_88 (fun H locs hP hD hS => ?_)
            have hP : va_P D vwCl (wl_k_X3_readDigits cI cJ cK xp p1 xt t1 (nI pz) (nI w_2) (nI tz) tf) H := hP
            have hD : va_D A (wl_k_X3_readDigits cI cJ cK xp p1 xt t1 (nI pz) (nI w_2) (nI tz) tf) := hD
            refine lv_iconst (v := (-1)) hx hb dX3_readDigits_91 (by decide +kernel) ?_
            exact my_retI hx hb hr hlocks hK hS (wl_k_X3_readDigits cI cJ cK xp p1 xt t1 (nI pz) (nI w_2) (nI tz) tf) hP hD (Or.inr (⟨w_2, rfl, rfl, (by first | assumption | omega | trivial | decide +kernel), (by intro h9; first | (have h8 := h9.1; rw [hE, hex.1] at h8; omega) | (have h8 := h9.2.2; rw [hV, hex.2] at h8; omega) | (have h8 := h9.2.1; rw [hE, hex.1, dgt_iff.mpr ⟨by omega, by omega, by omega⟩] at h8; cases h8)), (by first | assumption | omega | trivial | decide +kernel), (by first | assumption | omega | trivial | decide +kernel)⟩)) dX3_readDigits_92
          ·
            have d71 : ((v : Nat) : Int) ≥ ((lo : Nat) : Int) := my_nlt c71 (nI_toInt (by omega)) (nI_toInt (by omega))
            refine lv_iload hx hb dX3_readDigits_74 (lv_at hl 1 rfl) ?_
            refine lv_iload hx hb dX3_readDigits_76 (lv_at hl 6 rfl) ?_
            refine lv_icmp_le (tgt := 93) hx hb dX3_readDigits_78 (by decide) (fun c78 => ?_) (fun c78 => ?_)
            ·
              have d78 : ((v : Nat) : Int) ≤ ((hi : Nat) : Int) := my_le c78 (nI_toInt (by omega)) (nI_toInt (by omega))
              refine lv_aload_n hx hb dX3_readDigits_93 rfl (lv_at hl 3 rfl) ?_
              refine lv_aload_n hx hb dX3_readDigits_94 rfl (lv_at hl 2 rfl) ?_
              refine va_get (ci := 3) (v := .int (nI xp_at_6)) (C := RX3) (T := TX3) (N := 3) hx hb hts hi3 hown hK hP 0 rfl rfl 2 (by decide) fl19 (fun _ h9 => h9) rfl dX3_readDigits_95 ?_
              refine my_gpI (my_pV (As := [.int (nI xp_at_6)]) (rest := []) (ci := 5) ⟨hx, hb, hml, hown, hts⟩ (cwV 1 hts gX3_readDigits_X5_at rfl rfl rfl (by decide +kernel) ⟨Nat.le_of_ble_eq_true rfl, Nat.le_of_ble_eq_true rfl⟩) hN hK hP [1, 2] rfl 1 rfl rfl rfl rfl hl.1 rfl (Nat.le_of_ble_eq_true rfl) dX3_readDigits_98 ⟨Nat.le_of_ble_eq_true rfl, Nat.le_of_ble_eq_true rfl⟩  (k_X5_at l D cI cJ cK xt t1 tz tf xp_at_6 (by first | assumption | omega | decide +kernel) hR_tf (by first | assumption | omega | decide +kernel))) (fun r hp => ?_)
              rcases hp with ⟨rfl, ha_3⟩ | ⟨rfl, ha_4⟩
              ·
                refine my_gpI (my_pS (As := [.int (tf xp_at_6)]) (rest := []) ⟨hx, hb, hml, hown, hts⟩ (va_cwS 1 hts gX3_readDigits_X3_isDigit rfl rfl rfl (by decide +kernel) ⟨Nat.le_of_ble_eq_true rfl, Nat.le_of_ble_eq_true rfl⟩) hN hK hP [] rfl rfl hl.1 rfl (Nat.le_of_ble_eq_true rfl) dX3_readDigits_101 ⟨Nat.le_of_ble_eq_true rfl, Nat.le_of_ble_eq_true rfl⟩  (k_X3_isDigit l D cI cJ cK (tf xp_at_6) ((tf xp_at_6).toInt) rfl)) (fun r hp => ?_)
                rcases hp with ⟨rfl, ha_5, hb_6⟩ | ⟨rfl, ho_7⟩
                ·
                  refine lv_if_eq (tgt := 111) hx hb dX3_readDigits_104 (by decide) (fun c104 => ?_) (fun c104 => ?_)
                  ·
                    exact absurd c104 (by decide +kernel)
                  ·
                    refine lv_iconst (v := (-1)) hx hb dX3_readDigits_107 (by decide +kernel) ?_
                    refine lv_goto (tgt := 113) hx hb dX3_readDigits_108 (by decide) ?_
                    exact my_retI hx hb hr hlocks hK hS (wl_k_X3_readDigits cI cJ cK xp p1 xt t1 (nI pz) (nI xp_at_6) (nI tz) tf) hP hD (Or.inr (⟨xp_at_6, rfl, rfl, (by first | assumption | omega | trivial | decide +kernel), (by intro h9; first | (have h8 := h9.1; rw [hE, hex.1] at h8; omega) | (have h8 := h9.2.2; rw [hV, hex.2] at h8; omega) | (have h8 := h9.2.1; rw [hE, hex.1, dgt_iff.mpr ⟨by omega, by omega, by omega⟩] at h8; cases h8)), (by first | assumption | omega | trivial | decide +kernel), (by first | assumption | omega | trivial | decide +kernel)⟩)) dX3_readDigits_113
                ·
                  refine lv_if_eq (tgt := 111) hx hb dX3_readDigits_104 (by decide) (fun c104 => ?_) (fun c104 => ?_)
                  ·
                    refine lv_iload hx hb dX3_readDigits_111 (lv_at hl 1 rfl) ?_
                    exact my_retI hx hb hr hlocks hK hS (wl_k_X3_readDigits cI cJ cK xp p1 xt t1 (nI pz) (nI xp_at_6) (nI tz) tf) hP hD (Or.inl ⟨v, xp_at_6, rfl, rfl, (by first | assumption | omega | trivial | decide +kernel), ⟨by rw [hE, hex.1]; omega, by rw [hE, hex.1]; exact dgt_no (by omega), by rw [hV, hex.2]; omega, by rw [hV, hex.2]; omega⟩, (by rw [hV, hex.2]), (by rw [hE, hex.1]), (by first | assumption | omega | trivial | decide +kernel), (by first | assumption | omega | trivial | decide +kernel), (by first | assumption | omega | trivial | decide +kernel), (by first | assumption | omega | trivial | decide +kernel)⟩) dX3_readDigits_113
                  ·
                    exact absurd c104 (by decide +kernel)
              ·
                refine my_gpI (my_pS (As := [.int (-1)]) (rest := []) ⟨hx, hb, hml, hown, hts⟩ (va_cwS 1 hts gX3_readDigits_X3_isDigit rfl rfl rfl (by decide +kernel) ⟨Nat.le_of_ble_eq_true rfl, Nat.le_of_ble_eq_true rfl⟩) hN hK hP [] rfl rfl hl.1 rfl (Nat.le_of_ble_eq_true rfl) dX3_readDigits_101 ⟨Nat.le_of_ble_eq_true rfl, Nat.le_of_ble_eq_true rfl⟩  (k_X3_isDigit l D cI cJ cK (-1 : Int32) (-1 : Int) (by decide +kernel))) (fun r hp => ?_)
                rcases hp with ⟨rfl, ha_8, hb_9⟩ | ⟨rfl, ho_10⟩
                ·
                  refine lv_if_eq (tgt := 111) hx hb dX3_readDigits_104 (by decide) (fun c104 => ?_) (fun c104 => ?_)
                  ·
                    exact absurd c104 (by decide +kernel)
                  ·
                    refine lv_iconst (v := (-1)) hx hb dX3_readDigits_107 (by decide +kernel) ?_
                    refine lv_goto (tgt := 113) hx hb dX3_readDigits_108 (by decide) ?_
                    exact my_retI hx hb hr hlocks hK hS (wl_k_X3_readDigits cI cJ cK xp p1 xt t1 (nI pz) (nI xp_at_6) (nI tz) tf) hP hD (Or.inr (⟨xp_at_6, rfl, rfl, (by first | assumption | omega | trivial | decide +kernel), (by intro h9; first | (have h8 := h9.1; rw [hE, hex.1] at h8; omega) | (have h8 := h9.2.2; rw [hV, hex.2] at h8; omega) | (have h8 := h9.2.1; rw [hE, hex.1, dgt_iff.mpr ⟨by omega, by omega, by omega⟩] at h8; cases h8)), (by first | assumption | omega | trivial | decide +kernel), (by first | assumption | omega | trivial | decide +kernel)⟩)) dX3_readDigits_113
                ·
                  refine lv_if_eq (tgt := 111) hx hb dX3_readDigits_104 (by decide) (fun c104 => ?_) (fun c104 => ?_)
                  ·
                    refine lv_iload hx hb dX3_readDigits_111 (lv_at hl 1 rfl) ?_
                    exact my_retI hx hb hr hlocks hK hS (wl_k_X3_readDigits cI cJ cK xp p1 xt t1 (nI pz) (nI xp_at_6) (nI tz) tf) hP hD (Or.inl ⟨v, xp_at_6, rfl, rfl, (by first | assumption | omega | trivial | decide +kernel), ⟨by rw [hE, hex.1]; omega, by rw [hE, hex.1]; exact dgt_no (by omega), by rw [hV, hex.2]; omega, by rw [hV, hex.2]; omega⟩, (by rw [hV, hex.2]), (by rw [hE, hex.1]), (by first | assumption | omega | trivial | decide +kernel), (by first | assumption | omega | trivial | decide +kernel), (by first | assumption | omega | trivial | decide +kernel), (by first | assumption | omega | trivial | decide +kernel)⟩) dX3_readDigits_113
                  ·
                    exact absurd c104 (by decide +kernel)
            ·
              have d78 : ((v : Nat) : Int) > ((hi : Nat) : Int) := my_nle c78 (nI_toInt (by omega)) (nI_toInt (by omega))
              refine lv_aload_n hx hb dX3_readDigits_81 rfl (lv_at hl 2 rfl) ?_
              refine lv_dup hx hb dX3_readDigits_82 rfl ?_
              refine va_get (ci := 3) (v := .int (nI xp_at_6)) (C := RX3) (T := TX3) (N := 3) hx hb hts hi3 hown hK hP 0 rfl rfl 2 (by decide) fl19 (fun _ h9 => h9) rfl dX3_readDigits_83 ?_
              refine lv_iconst (v := 1) hx hb dX3_readDigits_86 (by decide +kernel) ?_
              refine lv_isub hx hb dX3_readDigits_87 ?_
              refine lv_topi (fun z_11 ez_11 => ?_)
              try have tz_11 : z_11.toInt = ((xp_at_6 : Nat) : Int) - (1 : Int) := by rw [ez_11]; exact my_subI (nI_toInt (by omega)) (by decide +kernel) (by omega) (by omega)
              obtain ⟨w_12, ew_12, hw_12⟩ : ∃ w : Nat, z_11 = nI w ∧ (w : Int) = (z_11 : Int32).toInt := my_natE (by omega)
              refine my_eqi (y := nI w_12) ew_12 ?_
              refine va_put (ci := 3) (v := .int (nI w_12)) (ty := (.int)) (C := RX3) (T := TX3) (N := 3) hx hb hts hi3 tyX3 tyX3_ok nmX3 hown hK hP hD hS 0 rfl rfl 2 (by decide) fl19 (fun _ h9 => h9) rfl (by decide +kernel) rfl rfl (Nat.le_of_ble_eq_true rfl) dX3_readDigits_88 (fun H locs hP hD hS => ?_)
              have hP : va_P D vwCl (wl_k_X3_readDigits cI cJ cK xp p1 xt t1 (nI pz) (nI w_12) (nI tz) tf) H := hP
              have hD : va_D A (wl_k_X3_readDigits cI cJ cK xp p1 xt t1 (nI pz) (nI w_12) (nI tz) tf) := hD
              refine lv_iconst (v := (-1)) hx hb dX3_readDigits_91 (by decide +kernel) ?_
              exact my_retI hx hb hr hlocks hK hS (wl_k_X3_readDigits cI cJ cK xp p1 xt t1 (nI pz) (nI w_12) (nI tz) tf) hP hD (Or.inr (⟨w_12, rfl, rfl, (by first | assumption | omega | trivial | decide +kernel), (by intro h9; first | (have h8 := h9.1; rw [hE, hex.1] at h8; omega) | (have h8 := h9.2.2; rw [hV, hex.2] at h8; omega) | (have h8 := h9.2.1; rw [hE, hex.1, dgt_iff.mpr ⟨by omega, by omega, by omega⟩] at h8; cases h8)), (by first | assumption | omega | trivial | decide +kernel), (by first | assumption | omega | trivial | decide +kernel)⟩)) dX3_readDigits_92
        ·
          have d63 : ((k : Nat) : Int) = (0 : Int) := my_eq c63 (nI_toInt (by omega)) (by decide +kernel)
          refine lv_iconst (v := (-1)) hx hb dX3_readDigits_66 (by decide +kernel) ?_
          exact my_retI hx hb hr hlocks hK hS (wl_k_X3_readDigits cI cJ cK xp p1 xt t1 (nI pz) (nI xp_at_6) (nI tz) tf) hP hD (Or.inr (⟨xp_at_6, rfl, rfl, (by first | assumption | omega | trivial | decide +kernel), (by intro h9; first | (have h8 := h9.1; rw [hE, hex.1] at h8; omega) | (have h8 := h9.2.2; rw [hV, hex.2] at h8; omega) | (have h8 := h9.2.1; rw [hE, hex.1, dgt_iff.mpr ⟨by omega, by omega, by omega⟩] at h8; cases h8)), (by first | assumption | omega | trivial | decide +kernel), (by first | assumption | omega | trivial | decide +kernel)⟩)) dX3_readDigits_67
      ·
        have d9 : ((k : Nat) : Int) < ((dn : Nat) : Int) := my_nge c9 (nI_toInt (by omega)) (nI_toInt (by omega))
        refine lv_aload_n hx hb dX3_readDigits_12 rfl (lv_at hl 3 rfl) ?_
        refine lv_aload_n hx hb dX3_readDigits_13 rfl (lv_at hl 2 rfl) ?_
        refine va_get (ci := 3) (v := .int (nI xp_at_6)) (C := RX3) (T := TX3) (N := 3) hx hb hts hi3 hown hK hP 0 rfl rfl 2 (by decide) fl19 (fun _ h9 => h9) rfl dX3_readDigits_14 ?_
        refine my_gpI (my_pV (As := [.int (nI xp_at_6)]) (rest := []) (ci := 5) ⟨hx, hb, hml, hown, hts⟩ (cwV 1 hts gX3_readDigits_X5_at rfl rfl rfl (by decide +kernel) ⟨Nat.le_of_ble_eq_true rfl, Nat.le_of_ble_eq_true rfl⟩) hN hK hP [1, 2] rfl 1 rfl rfl rfl rfl hl.1 rfl (Nat.le_of_ble_eq_true rfl) dX3_readDigits_17 ⟨Nat.le_of_ble_eq_true rfl, Nat.le_of_ble_eq_true rfl⟩  (k_X5_at l D cI cJ cK xt t1 tz tf xp_at_6 (by first | assumption | omega | decide +kernel) hR_tf (by first | assumption | omega | decide +kernel))) (fun r hp => ?_)
        rcases hp with ⟨rfl, ha_13⟩ | ⟨rfl, ha_14⟩
        ·
          refine my_gpI (my_pS (As := [.int (tf xp_at_6)]) (rest := []) ⟨hx, hb, hml, hown, hts⟩ (va_cwS 1 hts gX3_readDigits_X3_isDigit rfl rfl rfl (by decide +kernel) ⟨Nat.le_of_ble_eq_true rfl, Nat.le_of_ble_eq_true rfl⟩) hN hK hP [] rfl rfl hl.1 rfl (Nat.le_of_ble_eq_true rfl) dX3_readDigits_20 ⟨Nat.le_of_ble_eq_true rfl, Nat.le_of_ble_eq_true rfl⟩  (k_X3_isDigit l D cI cJ cK (tf xp_at_6) ((tf xp_at_6).toInt) rfl)) (fun r hp => ?_)
          rcases hp with ⟨rfl, ha_15, hb_16⟩ | ⟨rfl, ho_17⟩
          ·
            refine lv_if_eq (tgt := 61) hx hb dX3_readDigits_23 (by decide) (fun c23 => ?_) (fun c23 => ?_)
            ·
              exact absurd c23 (by decide +kernel)
            ·
              refine lv_iload hx hb dX3_readDigits_26 (lv_at hl 1 rfl) ?_
              refine lv_bipush (v := 10) hx hb dX3_readDigits_28 (by decide +kernel) ?_
              refine lv_imul hx hb dX3_readDigits_30 ?_
              refine my_eqi (y := nI (10 * v)) (my_mulN2 _ _) ?_
              refine lv_aload_n hx hb dX3_readDigits_31 rfl (lv_at hl 3 rfl) ?_
              refine lv_aload_n hx hb dX3_readDigits_32 rfl (lv_at hl 2 rfl) ?_
              refine va_get (ci := 3) (v := .int (nI xp_at_6)) (C := RX3) (T := TX3) (N := 3) hx hb hts hi3 hown hK hP 0 rfl rfl 2 (by decide) fl19 (fun _ h9 => h9) rfl dX3_readDigits_33 ?_
              refine my_gpI (my_pV (As := [.int (nI xp_at_6)]) (rest := [.int (nI (10 * v))]) (ci := 5) ⟨hx, hb, hml, hown, hts⟩ (cwV 1 hts gX3_readDigits_X5_at rfl rfl rfl (by decide +kernel) ⟨Nat.le_of_ble_eq_true rfl, Nat.le_of_ble_eq_true rfl⟩) hN hK hP [1, 2] rfl 1 rfl rfl rfl rfl hl.1 rfl (Nat.le_of_ble_eq_true rfl) dX3_readDigits_36 ⟨Nat.le_of_ble_eq_true rfl, Nat.le_of_ble_eq_true rfl⟩  (k_X5_at l D cI cJ cK xt t1 tz tf xp_at_6 (by first | assumption | omega | decide +kernel) hR_tf (by first | assumption | omega | decide +kernel))) (fun r hp => ?_)
              rcases hp with ⟨rfl, ha_18⟩ | ⟨rfl, ha_19⟩
              ·
                refine lv_iadd hx hb dX3_readDigits_39 ?_
                refine lv_topi (fun z_20 ez_20 => ?_)
                try have tz_20 : z_20.toInt = ((10 * v : Nat) : Int) + (tf xp_at_6).toInt := by rw [ez_20]; exact my_addI (nI_toInt (by omega)) rfl (by omega) (by omega)
                refine lv_bipush (v := 48) hx hb dX3_readDigits_40 (by decide +kernel) ?_
                refine lv_isub hx hb dX3_readDigits_42 ?_
                refine lv_topi (fun z_21 ez_21 => ?_)
                try have tz_21 : z_21.toInt = z_20.toInt - (48 : Int) := by rw [ez_21]; exact my_subI rfl (by decide +kernel) (by omega) (by omega)
                obtain ⟨w_22, ew_22, hw_22⟩ : ∃ w : Nat, z_21 = nI w ∧ (w : Int) = (z_21 : Int32).toInt := my_natE (by omega)
                refine my_eqi (y := nI w_22) ew_22 ?_
                refine lv_istore (lv' := [(5, .int (nI w_22)), (6, .int (nI k)), (0, .ref xp), (1, .ref xt), (2, .int (nI dn)), (3, .int (nI lo)), (4, .int (nI hi))]) hx hb dX3_readDigits_43 hl (by decide) rfl (fun ls hl => ?_)
                refine lv_aload_n hx hb dX3_readDigits_45 rfl (lv_at hl 2 rfl) ?_
                refine lv_dup hx hb dX3_readDigits_46 rfl ?_
                refine va_get (ci := 3) (v := .int (nI xp_at_6)) (C := RX3) (T := TX3) (N := 3) hx hb hts hi3 hown hK hP 0 rfl rfl 2 (by decide) fl19 (fun _ h9 => h9) rfl dX3_readDigits_47 ?_
                refine lv_iconst (v := 1) hx hb dX3_readDigits_50 (by decide +kernel) ?_
                refine lv_iadd hx hb dX3_readDigits_51 ?_
                refine my_eqi (y := nI (xp_at_6 + 1)) (my_addN xp_at_6 1) ?_
                refine va_put (ci := 3) (v := .int (nI (xp_at_6 + 1))) (ty := (.int)) (C := RX3) (T := TX3) (N := 3) hx hb hts hi3 tyX3 tyX3_ok nmX3 hown hK hP hD hS 0 rfl rfl 2 (by decide) fl19 (fun _ h9 => h9) rfl (by decide +kernel) rfl rfl (Nat.le_of_ble_eq_true rfl) dX3_readDigits_52 (fun H locs hP hD hS => ?_)
                have hP : va_P D vwCl (wl_k_X3_readDigits cI cJ cK xp p1 xt t1 (nI pz) (nI (xp_at_6 + 1)) (nI tz) tf) H := hP
                have hD : va_D A (wl_k_X3_readDigits cI cJ cK xp p1 xt t1 (nI pz) (nI (xp_at_6 + 1)) (nI tz) tf) := hD
                refine lv_iinc (v := nI (k + 1)) (lv' := [(6, .int (nI (k + 1))), (5, .int (nI w_22)), (0, .ref xp), (1, .ref xt), (2, .int (nI dn)), (3, .int (nI lo)), (4, .int (nI hi))]) hx hb dX3_readDigits_55 hl (k := 1) rfl (my_incN k 1 (by decide +kernel)) (by decide) rfl (fun ls hl => ?_)
                refine lv_goto (tgt := 6) hx hb dX3_readDigits_58 (by decide) ?_
                exact ih6  (k + 1) w_22 (xp_at_6 + 1) (by omega) (by first | assumption | omega | decide +kernel) (by first | assumption | omega | decide +kernel) (by first | assumption | omega | decide +kernel) (by first | assumption | omega | decide +kernel) (by first | assumption | omega | decide +kernel) (by first | assumption | omega | decide +kernel) (hE.trans (rd_yes (d := dn) (v := v) (by omega) (dgt_iff.mpr ⟨by omega, by omega, by omega⟩)).1) (hV.trans ((rd_yes (d := dn) (v := v) (by omega) (dgt_iff.mpr ⟨by omega, by omega, by omega⟩)).2.trans (by rw [show 10 * v + dgv tf xp_at_6 = w_22 from (by unfold dgv; omega)]))) (by first | assumption | omega | decide +kernel) _ _ ls hP hD hS (lv_sub hl [0, 1, 2, 3, 4, 5, 6] rfl)
              ·
                refine lv_iadd hx hb dX3_readDigits_39 ?_
                refine lv_topi (fun z_23 ez_23 => ?_)
                try have tz_23 : z_23.toInt = ((10 * v : Nat) : Int) + (-1 : Int) := by rw [ez_23]; exact my_addI (nI_toInt (by omega)) (by decide +kernel) (by omega) (by omega)
                refine lv_bipush (v := 48) hx hb dX3_readDigits_40 (by decide +kernel) ?_
                refine lv_isub hx hb dX3_readDigits_42 ?_
                refine lv_topi (fun z_24 ez_24 => ?_)
                try have tz_24 : z_24.toInt = z_23.toInt - (48 : Int) := by rw [ez_24]; exact my_subI rfl (by decide +kernel) (by omega) (by omega)
                obtain ⟨w_25, ew_25, hw_25⟩ : ∃ w : Nat, z_24 = nI w ∧ (w : Int) = (z_24 : Int32).toInt := my_natE (by omega)
                refine my_eqi (y := nI w_25) ew_25 ?_
                refine lv_istore (lv' := [(5, .int (nI w_25)), (6, .int (nI k)), (0, .ref xp), (1, .ref xt), (2, .int (nI dn)), (3, .int (nI lo)), (4, .int (nI hi))]) hx hb dX3_readDigits_43 hl (by decide) rfl (fun ls hl => ?_)
                refine lv_aload_n hx hb dX3_readDigits_45 rfl (lv_at hl 2 rfl) ?_
                refine lv_dup hx hb dX3_readDigits_46 rfl ?_
                refine va_get (ci := 3) (v := .int (nI xp_at_6)) (C := RX3) (T := TX3) (N := 3) hx hb hts hi3 hown hK hP 0 rfl rfl 2 (by decide) fl19 (fun _ h9 => h9) rfl dX3_readDigits_47 ?_
                refine lv_iconst (v := 1) hx hb dX3_readDigits_50 (by decide +kernel) ?_
                refine lv_iadd hx hb dX3_readDigits_51 ?_
                refine my_eqi (y := nI (xp_at_6 + 1)) (my_addN xp_at_6 1) ?_
                refine va_put (ci := 3) (v := .int (nI (xp_at_6 + 1))) (ty := (.int)) (C := RX3) (T := TX3) (N := 3) hx hb hts hi3 tyX3 tyX3_ok nmX3 hown hK hP hD hS 0 rfl rfl 2 (by decide) fl19 (fun _ h9 => h9) rfl (by decide +kernel) rfl rfl (Nat.le_of_ble_eq_true rfl) dX3_readDigits_52 (fun H locs hP hD hS => ?_)
                have hP : va_P D vwCl (wl_k_X3_readDigits cI cJ cK xp p1 xt t1 (nI pz) (nI (xp_at_6 + 1)) (nI tz) tf) H := hP
                have hD : va_D A (wl_k_X3_readDigits cI cJ cK xp p1 xt t1 (nI pz) (nI (xp_at_6 + 1)) (nI tz) tf) := hD
                refine lv_iinc (v := nI (k + 1)) (lv' := [(6, .int (nI (k + 1))), (5, .int (nI w_25)), (0, .ref xp), (1, .ref xt), (2, .int (nI dn)), (3, .int (nI lo)), (4, .int (nI hi))]) hx hb dX3_readDigits_55 hl (k := 1) rfl (my_incN k 1 (by decide +kernel)) (by decide) rfl (fun ls hl => ?_)
                refine lv_goto (tgt := 6) hx hb dX3_readDigits_58 (by decide) ?_
                exact ih6  (k + 1) w_25 (xp_at_6 + 1) (by omega) (by first | assumption | omega | decide +kernel) (by first | assumption | omega | decide +kernel) (by first | assumption | omega | decide +kernel) (by first | assumption | omega | decide +kernel) (by first | assumption | omega | decide +kernel) (by first | assumption | omega | decide +kernel) (hE.trans (rd_yes (d := dn) (v := v) (by omega) (dgt_iff.mpr ⟨by omega, by omega, by omega⟩)).1) (hV.trans ((rd_yes (d := dn) (v := v) (by omega) (dgt_iff.mpr ⟨by omega, by omega, by omega⟩)).2.trans (by rw [show 10 * v + dgv tf xp_at_6 = w_25 from (by unfold dgv; omega)]))) (by first | assumption | omega | decide +kernel) _ _ ls hP hD hS (lv_sub hl [0, 1, 2, 3, 4, 5, 6] rfl)
          ·
            refine lv_if_eq (tgt := 61) hx hb dX3_readDigits_23 (by decide) (fun c23 => ?_) (fun c23 => ?_)
            ·
              have hex := rd_exit (f := tf) (n := tz) (d := dn) (k := k) (a := xp_at_6) (v := v) (by first | (left; omega) | (right; exact dgt_no (by omega)))
              refine lv_iload hx hb dX3_readDigits_61 (lv_at hl 0 rfl) ?_
              refine lv_if_ne (tgt := 68) hx hb dX3_readDigits_63 (by decide) (fun c63 => ?_) (fun c63 => ?_)
              ·
                have d63 : ((k : Nat) : Int) ≠ (0 : Int) := my_ne c63 (nI_toInt (by omega)) (by decide +kernel)
                refine lv_iload hx hb dX3_readDigits_68 (lv_at hl 1 rfl) ?_
                refine lv_iload_n hx hb dX3_readDigits_70 rfl (lv_at hl 5 rfl) ?_
                refine lv_icmp_lt (tgt := 81) hx hb dX3_readDigits_71 (by decide) (fun c71 => ?_) (fun c71 => ?_)
                ·
                  have d71 : ((v : Nat) : Int) < ((lo : Nat) : Int) := my_lt c71 (nI_toInt (by omega)) (nI_toInt (by omega))
                  refine lv_aload_n hx hb dX3_readDigits_81 rfl (lv_at hl 2 rfl) ?_
                  refine lv_dup hx hb dX3_readDigits_82 rfl ?_
                  refine va_get (ci := 3) (v := .int (nI xp_at_6)) (C := RX3) (T := TX3) (N := 3) hx hb hts hi3 hown hK hP 0 rfl rfl 2 (by decide) fl19 (fun _ h9 => h9) rfl dX3_readDigits_83 ?_
                  refine lv_iconst (v := 1) hx hb dX3_readDigits_86 (by decide +kernel) ?_
                  refine lv_isub hx hb dX3_readDigits_87 ?_
                  refine lv_topi (fun z_26 ez_26 => ?_)
                  try have tz_26 : z_26.toInt = ((xp_at_6 : Nat) : Int) - (1 : Int) := by rw [ez_26]; exact my_subI (nI_toInt (by omega)) (by decide +kernel) (by omega) (by omega)
                  obtain ⟨w_27, ew_27, hw_27⟩ : ∃ w : Nat, z_26 = nI w ∧ (w : Int) = (z_26 : Int32).toInt := my_natE (by omega)
                  refine my_eqi (y := nI w_27) ew_27 ?_
                  refine va_put (ci := 3) (v := .int (nI w_27)) (ty := (.int)) (C := RX3) (T := TX3) (N := 3) hx hb hts hi3 tyX3 tyX3_ok nmX3 hown hK hP hD hS 0 rfl rfl 2 (by decide) fl19 (fun _ h9 => h9) rfl (by decide +kernel) rfl rfl (Nat.le_of_ble_eq_true rfl) dX3_readDigits_88 (fun H locs hP hD hS => ?_)
                  have hP : va_P D vwCl (wl_k_X3_readDigits cI cJ cK xp p1 xt t1 (nI pz) (nI w_27) (nI tz) tf) H := hP
                  have hD : va_D A (wl_k_X3_readDigits cI cJ cK xp p1 xt t1 (nI pz) (nI w_27) (nI tz) tf) := hD
                  refine lv_iconst (v := (-1)) hx hb dX3_readDigits_91 (by decide +kernel) ?_
                  exact my_retI hx hb hr hlocks hK hS (wl_k_X3_readDigits cI cJ cK xp p1 xt t1 (nI pz) (nI w_27) (nI tz) tf) hP hD (Or.inr (⟨w_27, rfl, rfl, (by first | assumption | omega | trivial | decide +kernel), (by intro h9; first | (have h8 := h9.1; rw [hE, hex.1] at h8; omega) | (have h8 := h9.2.2; rw [hV, hex.2] at h8; omega) | (have h8 := h9.2.1; rw [hE, hex.1, dgt_iff.mpr ⟨by omega, by omega, by omega⟩] at h8; cases h8)), (by first | assumption | omega | trivial | decide +kernel), (by first | assumption | omega | trivial | decide +kernel)⟩)) dX3_readDigits_92
                ·
                  have d71 : ((v : Nat) : Int) ≥ ((lo : Nat) : Int) := my_nlt c71 (nI_toInt (by omega)) (nI_toInt (by omega))
                  refine lv_iload hx hb dX3_readDigits_74 (lv_at hl 1 rfl) ?_
                  refine lv_iload hx hb dX3_readDigits_76 (lv_at hl 6 rfl) ?_
                  refine lv_icmp_le (tgt := 93) hx hb dX3_readDigits_78 (by decide) (fun c78 => ?_) (fun c78 => ?_)
                  ·
                    have d78 : ((v : Nat) : Int) ≤ ((hi : Nat) : Int) := my_le c78 (nI_toInt (by omega)) (nI_toInt (by omega))
                    refine lv_aload_n hx hb dX3_readDigits_93 rfl (lv_at hl 3 rfl) ?_
                    refine lv_aload_n hx hb dX3_readDigits_94 rfl (lv_at hl 2 rfl) ?_
                    refine va_get (ci := 3) (v := .int (nI xp_at_6)) (C := RX3) (T := TX3) (N := 3) hx hb hts hi3 hown hK hP 0 rfl rfl 2 (by decide) fl19 (fun _ h9 => h9) rfl dX3_readDigits_95 ?_
                    refine my_gpI (my_pV (As := [.int (nI xp_at_6)]) (rest := []) (ci := 5) ⟨hx, hb, hml, hown, hts⟩ (cwV 1 hts gX3_readDigits_X5_at rfl rfl rfl (by decide +kernel) ⟨Nat.le_of_ble_eq_true rfl, Nat.le_of_ble_eq_true rfl⟩) hN hK hP [1, 2] rfl 1 rfl rfl rfl rfl hl.1 rfl (Nat.le_of_ble_eq_true rfl) dX3_readDigits_98 ⟨Nat.le_of_ble_eq_true rfl, Nat.le_of_ble_eq_true rfl⟩  (k_X5_at l D cI cJ cK xt t1 tz tf xp_at_6 (by first | assumption | omega | decide +kernel) hR_tf (by first | assumption | omega | decide +kernel))) (fun r hp => ?_)
                    rcases hp with ⟨rfl, ha_28⟩ | ⟨rfl, ha_29⟩
                    ·
                      refine my_gpI (my_pS (As := [.int (tf xp_at_6)]) (rest := []) ⟨hx, hb, hml, hown, hts⟩ (va_cwS 1 hts gX3_readDigits_X3_isDigit rfl rfl rfl (by decide +kernel) ⟨Nat.le_of_ble_eq_true rfl, Nat.le_of_ble_eq_true rfl⟩) hN hK hP [] rfl rfl hl.1 rfl (Nat.le_of_ble_eq_true rfl) dX3_readDigits_101 ⟨Nat.le_of_ble_eq_true rfl, Nat.le_of_ble_eq_true rfl⟩  (k_X3_isDigit l D cI cJ cK (tf xp_at_6) ((tf xp_at_6).toInt) rfl)) (fun r hp => ?_)
                      rcases hp with ⟨rfl, ha_30, hb_31⟩ | ⟨rfl, ho_32⟩
                      ·
                        refine lv_if_eq (tgt := 111) hx hb dX3_readDigits_104 (by decide) (fun c104 => ?_) (fun c104 => ?_)
                        ·
                          exact absurd c104 (by decide +kernel)
                        ·
                          refine lv_iconst (v := (-1)) hx hb dX3_readDigits_107 (by decide +kernel) ?_
                          refine lv_goto (tgt := 113) hx hb dX3_readDigits_108 (by decide) ?_
                          exact my_retI hx hb hr hlocks hK hS (wl_k_X3_readDigits cI cJ cK xp p1 xt t1 (nI pz) (nI xp_at_6) (nI tz) tf) hP hD (Or.inr (⟨xp_at_6, rfl, rfl, (by first | assumption | omega | trivial | decide +kernel), (by intro h9; first | (have h8 := h9.1; rw [hE, hex.1] at h8; omega) | (have h8 := h9.2.2; rw [hV, hex.2] at h8; omega) | (have h8 := h9.2.1; rw [hE, hex.1, dgt_iff.mpr ⟨by omega, by omega, by omega⟩] at h8; cases h8)), (by first | assumption | omega | trivial | decide +kernel), (by first | assumption | omega | trivial | decide +kernel)⟩)) dX3_readDigits_113
                      ·
                        refine lv_if_eq (tgt := 111) hx hb dX3_readDigits_104 (by decide) (fun c104 => ?_) (fun c104 => ?_)
                        ·
                          refine lv_iload hx hb dX3_readDigits_111 (lv_at hl 1 rfl) ?_
                          exact my_retI hx hb hr hlocks hK hS (wl_k_X3_readDigits cI cJ cK xp p1 xt t1 (nI pz) (nI xp_at_6) (nI tz) tf) hP hD (Or.inl ⟨v, xp_at_6, rfl, rfl, (by first | assumption | omega | trivial | decide +kernel), ⟨by rw [hE, hex.1]; omega, by rw [hE, hex.1]; exact dgt_no (by omega), by rw [hV, hex.2]; omega, by rw [hV, hex.2]; omega⟩, (by rw [hV, hex.2]), (by rw [hE, hex.1]), (by first | assumption | omega | trivial | decide +kernel), (by first | assumption | omega | trivial | decide +kernel), (by first | assumption | omega | trivial | decide +kernel), (by first | assumption | omega | trivial | decide +kernel)⟩) dX3_readDigits_113
                        ·
                          exact absurd c104 (by decide +kernel)
                    ·
                      refine my_gpI (my_pS (As := [.int (-1)]) (rest := []) ⟨hx, hb, hml, hown, hts⟩ (va_cwS 1 hts gX3_readDigits_X3_isDigit rfl rfl rfl (by decide +kernel) ⟨Nat.le_of_ble_eq_true rfl, Nat.le_of_ble_eq_true rfl⟩) hN hK hP [] rfl rfl hl.1 rfl (Nat.le_of_ble_eq_true rfl) dX3_readDigits_101 ⟨Nat.le_of_ble_eq_true rfl, Nat.le_of_ble_eq_true rfl⟩  (k_X3_isDigit l D cI cJ cK (-1 : Int32) (-1 : Int) (by decide +kernel))) (fun r hp => ?_)
                      rcases hp with ⟨rfl, ha_33, hb_34⟩ | ⟨rfl, ho_35⟩
                      ·
                        refine lv_if_eq (tgt := 111) hx hb dX3_readDigits_104 (by decide) (fun c104 => ?_) (fun c104 => ?_)
                        ·
                          exact absurd c104 (by decide +kernel)
                        ·
                          refine lv_iconst (v := (-1)) hx hb dX3_readDigits_107 (by decide +kernel) ?_
                          refine lv_goto (tgt := 113) hx hb dX3_readDigits_108 (by decide) ?_
                          exact my_retI hx hb hr hlocks hK hS (wl_k_X3_readDigits cI cJ cK xp p1 xt t1 (nI pz) (nI xp_at_6) (nI tz) tf) hP hD (Or.inr (⟨xp_at_6, rfl, rfl, (by first | assumption | omega | trivial | decide +kernel), (by intro h9; first | (have h8 := h9.1; rw [hE, hex.1] at h8; omega) | (have h8 := h9.2.2; rw [hV, hex.2] at h8; omega) | (have h8 := h9.2.1; rw [hE, hex.1, dgt_iff.mpr ⟨by omega, by omega, by omega⟩] at h8; cases h8)), (by first | assumption | omega | trivial | decide +kernel), (by first | assumption | omega | trivial | decide +kernel)⟩)) dX3_readDigits_113
                      ·
                        refine lv_if_eq (tgt := 111) hx hb dX3_readDigits_104 (by decide) (fun c104 => ?_) (fun c104 => ?_)
                        ·
                          refine lv_iload hx hb dX3_readDigits_111 (lv_at hl 1 rfl) ?_
                          exact my_retI hx hb hr hlocks hK hS (wl_k_X3_readDigits cI cJ cK xp p1 xt t1 (nI pz) (nI xp_at_6) (nI tz) tf) hP hD (Or.inl ⟨v, xp_at_6, rfl, rfl, (by first | assumption | omega | trivial | decide +kernel), ⟨by rw [hE, hex.1]; omega, by rw [hE, hex.1]; exact dgt_no (by omega), by rw [hV, hex.2]; omega, by rw [hV, hex.2]; omega⟩, (by rw [hV, hex.2]), (by rw [hE, hex.1]), (by first | assumption | omega | trivial | decide +kernel), (by first | assumption | omega | trivial | decide +kernel), (by first | assumption | omega | trivial | decide +kernel), (by first | assumption | omega | trivial | decide +kernel)⟩) dX3_readDigits_113
                        ·
                          exact absurd c104 (by decide +kernel)
                  ·
                    have d78 : ((v : Nat) : Int) > ((hi : Nat) : Int) := my_nle c78 (nI_toInt (by omega)) (nI_toInt (by omega))
                    refine lv_aload_n hx hb dX3_readDigits_81 rfl (lv_at hl 2 rfl) ?_
                    refine lv_dup hx hb dX3_readDigits_82 rfl ?_
                    refine va_get (ci := 3) (v := .int (nI xp_at_6)) (C := RX3) (T := TX3) (N := 3) hx hb hts hi3 hown hK hP 0 rfl rfl 2 (by decide) fl19 (fun _ h9 => h9) rfl dX3_readDigits_83 ?_
                    refine lv_iconst (v := 1) hx hb dX3_readDigits_86 (by decide +kernel) ?_
                    refine lv_isub hx hb dX3_readDigits_87 ?_
                    refine lv_topi (fun z_36 ez_36 => ?_)
                    try have tz_36 : z_36.toInt = ((xp_at_6 : Nat) : Int) - (1 : Int) := by rw [ez_36]; exact my_subI (nI_toInt (by omega)) (by decide +kernel) (by omega) (by omega)
                    obtain ⟨w_37, ew_37, hw_37⟩ : ∃ w : Nat, z_36 = nI w ∧ (w : Int) = (z_36 : Int32).toInt := my_natE (by omega)
                    refine my_eqi (y := nI w_37) ew_37 ?_
                    refine va_put (ci := 3) (v := .int (nI w_37)) (ty := (.int)) (C := RX3) (T := TX3) (N := 3) hx hb hts hi3 tyX3 tyX3_ok nmX3 hown hK hP hD hS 0 rfl rfl 2 (by decide) fl19 (fun _ h9 => h9) rfl (by decide +kernel) rfl rfl (Nat.le_of_ble_eq_true rfl) dX3_readDigits_88 (fun H locs hP hD hS => ?_)
                    have hP : va_P D vwCl (wl_k_X3_readDigits cI cJ cK xp p1 xt t1 (nI pz) (nI w_37) (nI tz) tf) H := hP
                    have hD : va_D A (wl_k_X3_readDigits cI cJ cK xp p1 xt t1 (nI pz) (nI w_37) (nI tz) tf) := hD
                    refine lv_iconst (v := (-1)) hx hb dX3_readDigits_91 (by decide +kernel) ?_
                    exact my_retI hx hb hr hlocks hK hS (wl_k_X3_readDigits cI cJ cK xp p1 xt t1 (nI pz) (nI w_37) (nI tz) tf) hP hD (Or.inr (⟨w_37, rfl, rfl, (by first | assumption | omega | trivial | decide +kernel), (by intro h9; first | (have h8 := h9.1; rw [hE, hex.1] at h8; omega) | (have h8 := h9.2.2; rw [hV, hex.2] at h8; omega) | (have h8 := h9.2.1; rw [hE, hex.1, dgt_iff.mpr ⟨by omega, by omega, by omega⟩] at h8; cases h8)), (by first | assumption | omega | trivial | decide +kernel), (by first | assumption | omega | trivial | decide +kernel)⟩)) dX3_readDigits_92
              ·
                have d63 : ((k : Nat) : Int) = (0 : Int) := my_eq c63 (nI_toInt (by omega)) (by decide +kernel)
                refine lv_iconst (v := (-1)) hx hb dX3_readDigits_66 (by decide +kernel) ?_
                exact my_retI hx hb hr hlocks hK hS (wl_k_X3_readDigits cI cJ cK xp p1 xt t1 (nI pz) (nI xp_at_6) (nI tz) tf) hP hD (Or.inr (⟨xp_at_6, rfl, rfl, (by first | assumption | omega | trivial | decide +kernel), (by intro h9; first | (have h8 := h9.1; rw [hE, hex.1] at h8; omega) | (have h8 := h9.2.2; rw [hV, hex.2] at h8; omega) | (have h8 := h9.2.1; rw [hE, hex.1, dgt_iff.mpr ⟨by omega, by omega, by omega⟩] at h8; cases h8)), (by first | assumption | omega | trivial | decide +kernel), (by first | assumption | omega | trivial | decide +kernel)⟩)) dX3_readDigits_67
            ·
              exact absurd c23 (by decide +kernel)
        ·
          refine my_gpI (my_pS (As := [.int (-1)]) (rest := []) ⟨hx, hb, hml, hown, hts⟩ (va_cwS 1 hts gX3_readDigits_X3_isDigit rfl rfl rfl (by decide +kernel) ⟨Nat.le_of_ble_eq_true rfl, Nat.le_of_ble_eq_true rfl⟩) hN hK hP [] rfl rfl hl.1 rfl (Nat.le_of_ble_eq_true rfl) dX3_readDigits_20 ⟨Nat.le_of_ble_eq_true rfl, Nat.le_of_ble_eq_true rfl⟩  (k_X3_isDigit l D cI cJ cK (-1 : Int32) (-1 : Int) (by decide +kernel))) (fun r hp => ?_)
          rcases hp with ⟨rfl, ha_38, hb_39⟩ | ⟨rfl, ho_40⟩
          ·
            refine lv_if_eq (tgt := 61) hx hb dX3_readDigits_23 (by decide) (fun c23 => ?_) (fun c23 => ?_)
            ·
              exact absurd c23 (by decide +kernel)
            ·
              refine lv_iload hx hb dX3_readDigits_26 (lv_at hl 1 rfl) ?_
              refine lv_bipush (v := 10) hx hb dX3_readDigits_28 (by decide +kernel) ?_
              refine lv_imul hx hb dX3_readDigits_30 ?_
              refine my_eqi (y := nI (10 * v)) (my_mulN2 _ _) ?_
              refine lv_aload_n hx hb dX3_readDigits_31 rfl (lv_at hl 3 rfl) ?_
              refine lv_aload_n hx hb dX3_readDigits_32 rfl (lv_at hl 2 rfl) ?_
              refine va_get (ci := 3) (v := .int (nI xp_at_6)) (C := RX3) (T := TX3) (N := 3) hx hb hts hi3 hown hK hP 0 rfl rfl 2 (by decide) fl19 (fun _ h9 => h9) rfl dX3_readDigits_33 ?_
              refine my_gpI (my_pV (As := [.int (nI xp_at_6)]) (rest := [.int (nI (10 * v))]) (ci := 5) ⟨hx, hb, hml, hown, hts⟩ (cwV 1 hts gX3_readDigits_X5_at rfl rfl rfl (by decide +kernel) ⟨Nat.le_of_ble_eq_true rfl, Nat.le_of_ble_eq_true rfl⟩) hN hK hP [1, 2] rfl 1 rfl rfl rfl rfl hl.1 rfl (Nat.le_of_ble_eq_true rfl) dX3_readDigits_36 ⟨Nat.le_of_ble_eq_true rfl, Nat.le_of_ble_eq_true rfl⟩  (k_X5_at l D cI cJ cK xt t1 tz tf xp_at_6 (by first | assumption | omega | decide +kernel) hR_tf (by first | assumption | omega | decide +kernel))) (fun r hp => ?_)
              rcases hp with ⟨rfl, ha_41⟩ | ⟨rfl, ha_42⟩
              ·
                refine lv_iadd hx hb dX3_readDigits_39 ?_
                refine lv_topi (fun z_43 ez_43 => ?_)
                try have tz_43 : z_43.toInt = ((10 * v : Nat) : Int) + (tf xp_at_6).toInt := by rw [ez_43]; exact my_addI (nI_toInt (by omega)) rfl (by omega) (by omega)
                refine lv_bipush (v := 48) hx hb dX3_readDigits_40 (by decide +kernel) ?_
                refine lv_isub hx hb dX3_readDigits_42 ?_
                refine lv_topi (fun z_44 ez_44 => ?_)
                try have tz_44 : z_44.toInt = z_43.toInt - (48 : Int) := by rw [ez_44]; exact my_subI rfl (by decide +kernel) (by omega) (by omega)
                obtain ⟨w_45, ew_45, hw_45⟩ : ∃ w : Nat, z_44 = nI w ∧ (w : Int) = (z_44 : Int32).toInt := my_natE (by omega)
                refine my_eqi (y := nI w_45) ew_45 ?_
                refine lv_istore (lv' := [(5, .int (nI w_45)), (6, .int (nI k)), (0, .ref xp), (1, .ref xt), (2, .int (nI dn)), (3, .int (nI lo)), (4, .int (nI hi))]) hx hb dX3_readDigits_43 hl (by decide) rfl (fun ls hl => ?_)
                refine lv_aload_n hx hb dX3_readDigits_45 rfl (lv_at hl 2 rfl) ?_
                refine lv_dup hx hb dX3_readDigits_46 rfl ?_
                refine va_get (ci := 3) (v := .int (nI xp_at_6)) (C := RX3) (T := TX3) (N := 3) hx hb hts hi3 hown hK hP 0 rfl rfl 2 (by decide) fl19 (fun _ h9 => h9) rfl dX3_readDigits_47 ?_
                refine lv_iconst (v := 1) hx hb dX3_readDigits_50 (by decide +kernel) ?_
                refine lv_iadd hx hb dX3_readDigits_51 ?_
                refine my_eqi (y := nI (xp_at_6 + 1)) (my_addN xp_at_6 1) ?_
                refine va_put (ci := 3) (v := .int (nI (xp_at_6 + 1))) (ty := (.int)) (C := RX3) (T := TX3) (N := 3) hx hb hts hi3 tyX3 tyX3_ok nmX3 hown hK hP hD hS 0 rfl rfl 2 (by decide) fl19 (fun _ h9 => h9) rfl (by decide +kernel) rfl rfl (Nat.le_of_ble_eq_true rfl) dX3_readDigits_52 (fun H locs hP hD hS => ?_)
                have hP : va_P D vwCl (wl_k_X3_readDigits cI cJ cK xp p1 xt t1 (nI pz) (nI (xp_at_6 + 1)) (nI tz) tf) H := hP
                have hD : va_D A (wl_k_X3_readDigits cI cJ cK xp p1 xt t1 (nI pz) (nI (xp_at_6 + 1)) (nI tz) tf) := hD
                refine lv_iinc (v := nI (k + 1)) (lv' := [(6, .int (nI (k + 1))), (5, .int (nI w_45)), (0, .ref xp), (1, .ref xt), (2, .int (nI dn)), (3, .int (nI lo)), (4, .int (nI hi))]) hx hb dX3_readDigits_55 hl (k := 1) rfl (my_incN k 1 (by decide +kernel)) (by decide) rfl (fun ls hl => ?_)
                refine lv_goto (tgt := 6) hx hb dX3_readDigits_58 (by decide) ?_
                exact ih6  (k + 1) w_45 (xp_at_6 + 1) (by omega) (by first | assumption | omega | decide +kernel) (by first | assumption | omega | decide +kernel) (by first | assumption | omega | decide +kernel) (by first | assumption | omega | decide +kernel) (by first | assumption | omega | decide +kernel) (by first | assumption | omega | decide +kernel) (hE.trans (rd_yes (d := dn) (v := v) (by omega) (dgt_iff.mpr ⟨by omega, by omega, by omega⟩)).1) (hV.trans ((rd_yes (d := dn) (v := v) (by omega) (dgt_iff.mpr ⟨by omega, by omega, by omega⟩)).2.trans (by rw [show 10 * v + dgv tf xp_at_6 = w_45 from (by unfold dgv; omega)]))) (by first | assumption | omega | decide +kernel) _ _ ls hP hD hS (lv_sub hl [0, 1, 2, 3, 4, 5, 6] rfl)
              ·
                refine lv_iadd hx hb dX3_readDigits_39 ?_
                refine lv_topi (fun z_46 ez_46 => ?_)
                try have tz_46 : z_46.toInt = ((10 * v : Nat) : Int) + (-1 : Int) := by rw [ez_46]; exact my_addI (nI_toInt (by omega)) (by decide +kernel) (by omega) (by omega)
                refine lv_bipush (v := 48) hx hb dX3_readDigits_40 (by decide +kernel) ?_
                refine lv_isub hx hb dX3_readDigits_42 ?_
                refine lv_topi (fun z_47 ez_47 => ?_)
                try have tz_47 : z_47.toInt = z_46.toInt - (48 : Int) := by rw [ez_47]; exact my_subI rfl (by decide +kernel) (by omega) (by omega)
                obtain ⟨w_48, ew_48, hw_48⟩ : ∃ w : Nat, z_47 = nI w ∧ (w : Int) = (z_47 : Int32).toInt := my_natE (by omega)
                refine my_eqi (y := nI w_48) ew_48 ?_
                refine lv_istore (lv' := [(5, .int (nI w_48)), (6, .int (nI k)), (0, .ref xp), (1, .ref xt), (2, .int (nI dn)), (3, .int (nI lo)), (4, .int (nI hi))]) hx hb dX3_readDigits_43 hl (by decide) rfl (fun ls hl => ?_)
                refine lv_aload_n hx hb dX3_readDigits_45 rfl (lv_at hl 2 rfl) ?_
                refine lv_dup hx hb dX3_readDigits_46 rfl ?_
                refine va_get (ci := 3) (v := .int (nI xp_at_6)) (C := RX3) (T := TX3) (N := 3) hx hb hts hi3 hown hK hP 0 rfl rfl 2 (by decide) fl19 (fun _ h9 => h9) rfl dX3_readDigits_47 ?_
                refine lv_iconst (v := 1) hx hb dX3_readDigits_50 (by decide +kernel) ?_
                refine lv_iadd hx hb dX3_readDigits_51 ?_
                refine my_eqi (y := nI (xp_at_6 + 1)) (my_addN xp_at_6 1) ?_
                refine va_put (ci := 3) (v := .int (nI (xp_at_6 + 1))) (ty := (.int)) (C := RX3) (T := TX3) (N := 3) hx hb hts hi3 tyX3 tyX3_ok nmX3 hown hK hP hD hS 0 rfl rfl 2 (by decide) fl19 (fun _ h9 => h9) rfl (by decide +kernel) rfl rfl (Nat.le_of_ble_eq_true rfl) dX3_readDigits_52 (fun H locs hP hD hS => ?_)
                have hP : va_P D vwCl (wl_k_X3_readDigits cI cJ cK xp p1 xt t1 (nI pz) (nI (xp_at_6 + 1)) (nI tz) tf) H := hP
                have hD : va_D A (wl_k_X3_readDigits cI cJ cK xp p1 xt t1 (nI pz) (nI (xp_at_6 + 1)) (nI tz) tf) := hD
                refine lv_iinc (v := nI (k + 1)) (lv' := [(6, .int (nI (k + 1))), (5, .int (nI w_48)), (0, .ref xp), (1, .ref xt), (2, .int (nI dn)), (3, .int (nI lo)), (4, .int (nI hi))]) hx hb dX3_readDigits_55 hl (k := 1) rfl (my_incN k 1 (by decide +kernel)) (by decide) rfl (fun ls hl => ?_)
                refine lv_goto (tgt := 6) hx hb dX3_readDigits_58 (by decide) ?_
                exact ih6  (k + 1) w_48 (xp_at_6 + 1) (by omega) (by first | assumption | omega | decide +kernel) (by first | assumption | omega | decide +kernel) (by first | assumption | omega | decide +kernel) (by first | assumption | omega | decide +kernel) (by first | assumption | omega | decide +kernel) (by first | assumption | omega | decide +kernel) (hE.trans (rd_yes (d := dn) (v := v) (by omega) (dgt_iff.mpr ⟨by omega, by omega, by omega⟩)).1) (hV.trans ((rd_yes (d := dn) (v := v) (by omega) (dgt_iff.mpr ⟨by omega, by omega, by omega⟩)).2.trans (by rw [show 10 * v + dgv tf xp_at_6 = w_48 from (by unfold dgv; omega)]))) (by first | assumption | omega | decide +kernel) _ _ ls hP hD hS (lv_sub hl [0, 1, 2, 3, 4, 5, 6] rfl)
          ·
            refine lv_if_eq (tgt := 61) hx hb dX3_readDigits_23 (by decide) (fun c23 => ?_) (fun c23 => ?_)
            ·
              have hex := rd_exit (f := tf) (n := tz) (d := dn) (k := k) (a := xp_at_6) (v := v) (by first | (left; omega) | (right; exact dgt_no (by omega)))
              refine lv_iload hx hb dX3_readDigits_61 (lv_at hl 0 rfl) ?_
              refine lv_if_ne (tgt := 68) hx hb dX3_readDigits_63 (by decide) (fun c63 => ?_) (fun c63 => ?_)
              ·
                have d63 : ((k : Nat) : Int) ≠ (0 : Int) := my_ne c63 (nI_toInt (by omega)) (by decide +kernel)
                refine lv_iload hx hb dX3_readDigits_68 (lv_at hl 1 rfl) ?_
                refine lv_iload_n hx hb dX3_readDigits_70 rfl (lv_at hl 5 rfl) ?_
                refine lv_icmp_lt (tgt := 81) hx hb dX3_readDigits_71 (by decide) (fun c71 => ?_) (fun c71 => ?_)
                ·
                  have d71 : ((v : Nat) : Int) < ((lo : Nat) : Int) := my_lt c71 (nI_toInt (by omega)) (nI_toInt (by omega))
                  refine lv_aload_n hx hb dX3_readDigits_81 rfl (lv_at hl 2 rfl) ?_
                  refine lv_dup hx hb dX3_readDigits_82 rfl ?_
                  refine va_get (ci := 3) (v := .int (nI xp_at_6)) (C := RX3) (T := TX3) (N := 3) hx hb hts hi3 hown hK hP 0 rfl rfl 2 (by decide) fl19 (fun _ h9 => h9) rfl dX3_readDigits_83 ?_
                  refine lv_iconst (v := 1) hx hb dX3_readDigits_86 (by decide +kernel) ?_
                  refine lv_isub hx hb dX3_readDigits_87 ?_
                  refine lv_topi (fun z_49 ez_49 => ?_)
                  try have tz_49 : z_49.toInt = ((xp_at_6 : Nat) : Int) - (1 : Int) := by rw [ez_49]; exact my_subI (nI_toInt (by omega)) (by decide +kernel) (by omega) (by omega)
                  obtain ⟨w_50, ew_50, hw_50⟩ : ∃ w : Nat, z_49 = nI w ∧ (w : Int) = (z_49 : Int32).toInt := my_natE (by omega)
                  refine my_eqi (y := nI w_50) ew_50 ?_
                  refine va_put (ci := 3) (v := .int (nI w_50)) (ty := (.int)) (C := RX3) (T := TX3) (N := 3) hx hb hts hi3 tyX3 tyX3_ok nmX3 hown hK hP hD hS 0 rfl rfl 2 (by decide) fl19 (fun _ h9 => h9) rfl (by decide +kernel) rfl rfl (Nat.le_of_ble_eq_true rfl) dX3_readDigits_88 (fun H locs hP hD hS => ?_)
                  have hP : va_P D vwCl (wl_k_X3_readDigits cI cJ cK xp p1 xt t1 (nI pz) (nI w_50) (nI tz) tf) H := hP
                  have hD : va_D A (wl_k_X3_readDigits cI cJ cK xp p1 xt t1 (nI pz) (nI w_50) (nI tz) tf) := hD
                  refine lv_iconst (v := (-1)) hx hb dX3_readDigits_91 (by decide +kernel) ?_
                  exact my_retI hx hb hr hlocks hK hS (wl_k_X3_readDigits cI cJ cK xp p1 xt t1 (nI pz) (nI w_50) (nI tz) tf) hP hD (Or.inr (⟨w_50, rfl, rfl, (by first | assumption | omega | trivial | decide +kernel), (by intro h9; first | (have h8 := h9.1; rw [hE, hex.1] at h8; omega) | (have h8 := h9.2.2; rw [hV, hex.2] at h8; omega) | (have h8 := h9.2.1; rw [hE, hex.1, dgt_iff.mpr ⟨by omega, by omega, by omega⟩] at h8; cases h8)), (by first | assumption | omega | trivial | decide +kernel), (by first | assumption | omega | trivial | decide +kernel)⟩)) dX3_readDigits_92
                ·
                  have d71 : ((v : Nat) : Int) ≥ ((lo : Nat) : Int) := my_nlt c71 (nI_toInt (by omega)) (nI_toInt (by omega))
                  refine lv_iload hx hb dX3_readDigits_74 (lv_at hl 1 rfl) ?_
                  refine lv_iload hx hb dX3_readDigits_76 (lv_at hl 6 rfl) ?_
                  refine lv_icmp_le (tgt := 93) hx hb dX3_readDigits_78 (by decide) (fun c78 => ?_) (fun c78 => ?_)
                  ·
                    have d78 : ((v : Nat) : Int) ≤ ((hi : Nat) : Int) := my_le c78 (nI_toInt (by omega)) (nI_toInt (by omega))
                    refine lv_aload_n hx hb dX3_readDigits_93 rfl (lv_at hl 3 rfl) ?_
                    refine lv_aload_n hx hb dX3_readDigits_94 rfl (lv_at hl 2 rfl) ?_
                    refine va_get (ci := 3) (v := .int (nI xp_at_6)) (C := RX3) (T := TX3) (N := 3) hx hb hts hi3 hown hK hP 0 rfl rfl 2 (by decide) fl19 (fun _ h9 => h9) rfl dX3_readDigits_95 ?_
                    refine my_gpI (my_pV (As := [.int (nI xp_at_6)]) (rest := []) (ci := 5) ⟨hx, hb, hml, hown, hts⟩ (cwV 1 hts gX3_readDigits_X5_at rfl rfl rfl (by decide +kernel) ⟨Nat.le_of_ble_eq_true rfl, Nat.le_of_ble_eq_true rfl⟩) hN hK hP [1, 2] rfl 1 rfl rfl rfl rfl hl.1 rfl (Nat.le_of_ble_eq_true rfl) dX3_readDigits_98 ⟨Nat.le_of_ble_eq_true rfl, Nat.le_of_ble_eq_true rfl⟩  (k_X5_at l D cI cJ cK xt t1 tz tf xp_at_6 (by first | assumption | omega | decide +kernel) hR_tf (by first | assumption | omega | decide +kernel))) (fun r hp => ?_)
                    rcases hp with ⟨rfl, ha_51⟩ | ⟨rfl, ha_52⟩
                    ·
                      refine my_gpI (my_pS (As := [.int (tf xp_at_6)]) (rest := []) ⟨hx, hb, hml, hown, hts⟩ (va_cwS 1 hts gX3_readDigits_X3_isDigit rfl rfl rfl (by decide +kernel) ⟨Nat.le_of_ble_eq_true rfl, Nat.le_of_ble_eq_true rfl⟩) hN hK hP [] rfl rfl hl.1 rfl (Nat.le_of_ble_eq_true rfl) dX3_readDigits_101 ⟨Nat.le_of_ble_eq_true rfl, Nat.le_of_ble_eq_true rfl⟩  (k_X3_isDigit l D cI cJ cK (tf xp_at_6) ((tf xp_at_6).toInt) rfl)) (fun r hp => ?_)
                      rcases hp with ⟨rfl, ha_53, hb_54⟩ | ⟨rfl, ho_55⟩
                      ·
                        refine lv_if_eq (tgt := 111) hx hb dX3_readDigits_104 (by decide) (fun c104 => ?_) (fun c104 => ?_)
                        ·
                          exact absurd c104 (by decide +kernel)
                        ·
                          refine lv_iconst (v := (-1)) hx hb dX3_readDigits_107 (by decide +kernel) ?_
                          refine lv_goto (tgt := 113) hx hb dX3_readDigits_108 (by decide) ?_
                          exact my_retI hx hb hr hlocks hK hS (wl_k_X3_readDigits cI cJ cK xp p1 xt t1 (nI pz) (nI xp_at_6) (nI tz) tf) hP hD (Or.inr (⟨xp_at_6, rfl, rfl, (by first | assumption | omega | trivial | decide +kernel), (by intro h9; first | (have h8 := h9.1; rw [hE, hex.1] at h8; omega) | (have h8 := h9.2.2; rw [hV, hex.2] at h8; omega) | (have h8 := h9.2.1; rw [hE, hex.1, dgt_iff.mpr ⟨by omega, by omega, by omega⟩] at h8; cases h8)), (by first | assumption | omega | trivial | decide +kernel), (by first | assumption | omega | trivial | decide +kernel)⟩)) dX3_readDigits_113
                      ·
                        refine lv_if_eq (tgt := 111) hx hb dX3_readDigits_104 (by decide) (fun c104 => ?_) (fun c104 => ?_)
                        ·
                          refine lv_iload hx hb dX3_readDigits_111 (lv_at hl 1 rfl) ?_
                          exact my_retI hx hb hr hlocks hK hS (wl_k_X3_readDigits cI cJ cK xp p1 xt t1 (nI pz) (nI xp_at_6) (nI tz) tf) hP hD (Or.inl ⟨v, xp_at_6, rfl, rfl, (by first | assumption | omega | trivial | decide +kernel), ⟨by rw [hE, hex.1]; omega, by rw [hE, hex.1]; exact dgt_no (by omega), by rw [hV, hex.2]; omega, by rw [hV, hex.2]; omega⟩, (by rw [hV, hex.2]), (by rw [hE, hex.1]), (by first | assumption | omega | trivial | decide +kernel), (by first | assumption | omega | trivial | decide +kernel), (by first | assumption | omega | trivial | decide +kernel), (by first | assumption | omega | trivial | decide +kernel)⟩) dX3_readDigits_113
                        ·
                          exact absurd c104 (by decide +kernel)
                    ·
                      refine my_gpI (my_pS (As := [.int (-1)]) (rest := []) ⟨hx, hb, hml, hown, hts⟩ (va_cwS 1 hts gX3_readDigits_X3_isDigit rfl rfl rfl (by decide +kernel) ⟨Nat.le_of_ble_eq_true rfl, Nat.le_of_ble_eq_true rfl⟩) hN hK hP [] rfl rfl hl.1 rfl (Nat.le_of_ble_eq_true rfl) dX3_readDigits_101 ⟨Nat.le_of_ble_eq_true rfl, Nat.le_of_ble_eq_true rfl⟩  (k_X3_isDigit l D cI cJ cK (-1 : Int32) (-1 : Int) (by decide +kernel))) (fun r hp => ?_)
                      rcases hp with ⟨rfl, ha_56, hb_57⟩ | ⟨rfl, ho_58⟩
                      ·
                        refine lv_if_eq (tgt := 111) hx hb dX3_readDigits_104 (by decide) (fun c104 => ?_) (fun c104 => ?_)
                        ·
                          exact absurd c104 (by decide +kernel)
                        ·
                          refine lv_iconst (v := (-1)) hx hb dX3_readDigits_107 (by decide +kernel) ?_
                          refine lv_goto (tgt := 113) hx hb dX3_readDigits_108 (by decide) ?_
                          exact my_retI hx hb hr hlocks hK hS (wl_k_X3_readDigits cI cJ cK xp p1 xt t1 (nI pz) (nI xp_at_6) (nI tz) tf) hP hD (Or.inr (⟨xp_at_6, rfl, rfl, (by first | assumption | omega | trivial | decide +kernel), (by intro h9; first | (have h8 := h9.1; rw [hE, hex.1] at h8; omega) | (have h8 := h9.2.2; rw [hV, hex.2] at h8; omega) | (have h8 := h9.2.1; rw [hE, hex.1, dgt_iff.mpr ⟨by omega, by omega, by omega⟩] at h8; cases h8)), (by first | assumption | omega | trivial | decide +kernel), (by first | assumption | omega | trivial | decide +kernel)⟩)) dX3_readDigits_113
                      ·
                        refine lv_if_eq (tgt := 111) hx hb dX3_readDigits_104 (by decide) (fun c104 => ?_) (fun c104 => ?_)
                        ·
                          refine lv_iload hx hb dX3_readDigits_111 (lv_at hl 1 rfl) ?_
                          exact my_retI hx hb hr hlocks hK hS (wl_k_X3_readDigits cI cJ cK xp p1 xt t1 (nI pz) (nI xp_at_6) (nI tz) tf) hP hD (Or.inl ⟨v, xp_at_6, rfl, rfl, (by first | assumption | omega | trivial | decide +kernel), ⟨by rw [hE, hex.1]; omega, by rw [hE, hex.1]; exact dgt_no (by omega), by rw [hV, hex.2]; omega, by rw [hV, hex.2]; omega⟩, (by rw [hV, hex.2]), (by rw [hE, hex.1]), (by first | assumption | omega | trivial | decide +kernel), (by first | assumption | omega | trivial | decide +kernel), (by first | assumption | omega | trivial | decide +kernel), (by first | assumption | omega | trivial | decide +kernel)⟩) dX3_readDigits_113
                        ·
                          exact absurd c104 (by decide +kernel)
                  ·
                    have d78 : ((v : Nat) : Int) > ((hi : Nat) : Int) := my_nle c78 (nI_toInt (by omega)) (nI_toInt (by omega))
                    refine lv_aload_n hx hb dX3_readDigits_81 rfl (lv_at hl 2 rfl) ?_
                    refine lv_dup hx hb dX3_readDigits_82 rfl ?_
                    refine va_get (ci := 3) (v := .int (nI xp_at_6)) (C := RX3) (T := TX3) (N := 3) hx hb hts hi3 hown hK hP 0 rfl rfl 2 (by decide) fl19 (fun _ h9 => h9) rfl dX3_readDigits_83 ?_
                    refine lv_iconst (v := 1) hx hb dX3_readDigits_86 (by decide +kernel) ?_
                    refine lv_isub hx hb dX3_readDigits_87 ?_
                    refine lv_topi (fun z_59 ez_59 => ?_)
                    try have tz_59 : z_59.toInt = ((xp_at_6 : Nat) : Int) - (1 : Int) := by rw [ez_59]; exact my_subI (nI_toInt (by omega)) (by decide +kernel) (by omega) (by omega)
                    obtain ⟨w_60, ew_60, hw_60⟩ : ∃ w : Nat, z_59 = nI w ∧ (w : Int) = (z_59 : Int32).toInt := my_natE (by omega)
                    refine my_eqi (y := nI w_60) ew_60 ?_
                    refine va_put (ci := 3) (v := .int (nI w_60)) (ty := (.int)) (C := RX3) (T := TX3) (N := 3) hx hb hts hi3 tyX3 tyX3_ok nmX3 hown hK hP hD hS 0 rfl rfl 2 (by decide) fl19 (fun _ h9 => h9) rfl (by decide +kernel) rfl rfl (Nat.le_of_ble_eq_true rfl) dX3_readDigits_88 (fun H locs hP hD hS => ?_)
                    have hP : va_P D vwCl (wl_k_X3_readDigits cI cJ cK xp p1 xt t1 (nI pz) (nI w_60) (nI tz) tf) H := hP
                    have hD : va_D A (wl_k_X3_readDigits cI cJ cK xp p1 xt t1 (nI pz) (nI w_60) (nI tz) tf) := hD
                    refine lv_iconst (v := (-1)) hx hb dX3_readDigits_91 (by decide +kernel) ?_
                    exact my_retI hx hb hr hlocks hK hS (wl_k_X3_readDigits cI cJ cK xp p1 xt t1 (nI pz) (nI w_60) (nI tz) tf) hP hD (Or.inr (⟨w_60, rfl, rfl, (by first | assumption | omega | trivial | decide +kernel), (by intro h9; first | (have h8 := h9.1; rw [hE, hex.1] at h8; omega) | (have h8 := h9.2.2; rw [hV, hex.2] at h8; omega) | (have h8 := h9.2.1; rw [hE, hex.1, dgt_iff.mpr ⟨by omega, by omega, by omega⟩] at h8; cases h8)), (by first | assumption | omega | trivial | decide +kernel), (by first | assumption | omega | trivial | decide +kernel)⟩)) dX3_readDigits_92
              ·
                have d63 : ((k : Nat) : Int) = (0 : Int) := my_eq c63 (nI_toInt (by omega)) (by decide +kernel)
                refine lv_iconst (v := (-1)) hx hb dX3_readDigits_66 (by decide +kernel) ?_
                exact my_retI hx hb hr hlocks hK hS (wl_k_X3_readDigits cI cJ cK xp p1 xt t1 (nI pz) (nI xp_at_6) (nI tz) tf) hP hD (Or.inr (⟨xp_at_6, rfl, rfl, (by first | assumption | omega | trivial | decide +kernel), (by intro h9; first | (have h8 := h9.1; rw [hE, hex.1] at h8; omega) | (have h8 := h9.2.2; rw [hV, hex.2] at h8; omega) | (have h8 := h9.2.1; rw [hE, hex.1, dgt_iff.mpr ⟨by omega, by omega, by omega⟩] at h8; cases h8)), (by first | assumption | omega | trivial | decide +kernel), (by first | assumption | omega | trivial | decide +kernel)⟩)) dX3_readDigits_67
            ·
              exact absurd c23 (by decide +kernel)
  exact loop6 ((3 - 0) + 1) 0 0 pa (Nat.lt_succ_self _) (by first | assumption | omega | decide +kernel) (by first | assumption | omega | decide +kernel) (by first | assumption | omega | decide +kernel) (by first | assumption | omega | decide +kernel) (by first | assumption | omega | decide +kernel) (by decide) (rfl) (rfl) (by first | assumption | omega | decide +kernel) _ _ ls hP hD hS (lv_sub hl [0, 1, 2, 3, 4, 5, 6] rfl)
abbrev wl_k_X3_readPart (cI cJ cK : ClassId) (xp : Nat) (p1 : Nat) (xt : Nat) (t1 : Nat) (v0_ : Int32) (v1_ : Int32) (v2_ : Nat → Int32) (v3_ : Int32) (v4_ : Nat → Int32) : va_W := [(xp, .inr (3, [.ref p1, .int v0_, .int v1_])), (p1, .inl (cI, 64, .inl v2_)), (xt, .inr (5, [.ref t1, .int v3_])), (t1, .inl (cI, 100, .inl v4_))]
set_option maxHeartbeats 4000000 in
set_option maxRecDepth 100000 in
theorem k_X3_readPart (l : Launch) (D : va_G) (cI cJ cK : ClassId) (xp : Nat) (p1 : Nat) (xt : Nat) (t1 : Nat) (pz : Nat) (pa : Nat) (pn : Nat → Int32) (tz : Nat) (tf : Nat → Int32) (hz_pz : pz ≤ 64) (hz_pa : pa ≤ 100) (hR_pn : RB 0 255 pn) (hz_tz : tz ≤ 100) (hR_tf : RB 0 255 tf) (hpa : pa ≤ tz) : ctI l yX3_readPart wsX3_readPart ({ frames := 2, cells := 0, slots := 0, locals := 120 } : Room) D (tyIJ cI cJ cK) [.ref xp, .ref xt] (wl_k_X3_readPart cI cJ cK xp p1 xt t1 (nI pz) (nI pa) pn (nI tz) tf) (fun (r : Int32) (u : va_W) => (∃ (pz' : Nat) (pa' : Nat) (pn' : Nat → Int32), u = (wl_k_X3_readPart cI cJ cK xp p1 xt t1 (nI pz') (nI pa') pn' (nI tz) tf) ∧ r = (-1) ∧ pz' ≤ 64 ∧ pa' ≤ 100 ∧ RB 0 255 pn' ∧ ptOk tf tz pa ∧ pz' = pz + ptT tf tz pa ∧ pa' = ptE tf tz pa ∧ pa' ≤ tz ∧ pa < pa' ∧ pn' = fb_put pn (fun _ => nI (ptV tf tz pa)) pz (ptT tf tz pa)) ∨ (∃ (pz' : Nat) (pa' : Nat) (pn' : Nat → Int32), u = (wl_k_X3_readPart cI cJ cK xp p1 xt t1 (nI pz') (nI pa') pn' (nI tz) tf) ∧ pz' ≤ 64 ∧ pa' ≤ 100 ∧ RB 0 255 pn' ∧ 0 ≤ r.toInt ∧ (¬ (ptOk tf tz pa ∧ pz + ptT tf tz pa ≤ 64)))) := by
  refine ctI.of (cc := cX3_readPart) (maxL := 6) (ret := (some .int)) (by decide) rfl (Nat.le_of_ble_eq_true rfl) ?_
  intro p e s m below meth c ls A hx hb hr hts hown hml hlocks hname hA hK hN hP hD hS hl
  have hl : lv_has ls 6 [(0, .ref xp), (1, .ref xt)] := hl
  have hown : s.vm.findClass RX3 = some m.cls := hown
  have hi3 : ∀ w ∈ u_ws RX3 TX3 3, w ∈ wsX3_readPart := by decide +kernel
  have fl15 := hts (.fieldLink RX3 15 "PlaneColumn$PartReader" "size" "I") (by decide +kernel)
  have fl19 := hts (.fieldLink RX3 19 "PlaneColumn$PartReader" "at" "I") (by decide +kernel)
  have fl9 := hts (.fieldLink RX3 9 "PlaneColumn$PartReader" "numbers" "[I") (by decide +kernel)
  refine lv_aload_n hx hb dX3_readPart_0 rfl (lv_at hl 0 rfl) ?_
  refine va_get (ci := 3) (v := .int (nI pa)) (C := RX3) (T := TX3) (N := 3) hx hb hts hi3 hown hK hP 0 rfl rfl 2 (by decide) fl19 (fun _ h9 => h9) rfl dX3_readPart_1 ?_
  refine lv_istore_n (lv' := [(2, .int (nI pa)), (0, .ref xp), (1, .ref xt)]) hx hb dX3_readPart_4 rfl hl (by decide) rfl (fun ls hl => ?_)
  refine lv_aload_n hx hb dX3_readPart_5 rfl (lv_at hl 1 rfl) ?_
  refine lv_aload_n hx hb dX3_readPart_6 rfl (lv_at hl 2 rfl) ?_
  refine lv_iconst (v := 3) hx hb dX3_readPart_7 (by decide +kernel) ?_
  refine lv_iconst (v := 0) hx hb dX3_readPart_8 (by decide +kernel) ?_
  refine lv_sipush (v := 255) hx hb dX3_readPart_9 (by decide +kernel) ?_
  refine my_goIS (wc := (wl_k_X3_readDigits cI cJ cK xp p1 xt t1 (nI pz) (nI pa) (nI tz) tf)) hP hD hS hA [0, 2, 3] rfl [some 0, none, some 1, some 2] (by decide +kernel) (my_cV (As := [.ref xt, .int 3, .int 0, .int 255]) (rest := []) (ci := 3) (wc := (wl_k_X3_readDigits cI cJ cK xp p1 xt t1 (nI pz) (nI pa) (nI tz) tf)) ⟨hx, hb, hml, hown, hts⟩ (cwV 4 hts gX3_readPart_X3_readDigits rfl rfl rfl (by decide +kernel) ⟨Nat.le_of_ble_eq_true rfl, Nat.le_of_ble_eq_true rfl⟩) hN hK hP hD [0, 2, 3] rfl (by decide) rfl 0 rfl rfl rfl rfl hl.1 rfl (Nat.le_of_ble_eq_true rfl) dX3_readPart_12 ⟨Nat.le_of_ble_eq_true rfl, Nat.le_of_ble_eq_true rfl⟩  ((k_X3_readDigits l D cI cJ cK xp p1 xt t1 pz pa tz tf 3 0 255 (by first | assumption | omega | decide +kernel) (by first | assumption | omega | decide +kernel) (by first | assumption | omega | decide +kernel) hR_tf (by first | assumption | omega | decide +kernel) (by first | assumption | omega | decide +kernel) (by first | assumption | omega | decide +kernel) (by first | assumption | omega | decide +kernel)) _)) (fun r u H locs hp hPD hS => ?_)
  rcases hp with ⟨v_1, pa_2, rfl, rfl, hhz_pa_3, hok, hv_4, he_5, ht_6, hu_7, hw_8, hx_9⟩ | ⟨pa_10, rfl, rfl, hhz_pa_11, hno, ht_12, hu_13⟩
  ·
    obtain ⟨hP, hD⟩ := hPD rfl
    have hP : va_P D vwCl (wl_k_X3_readPart cI cJ cK xp p1 xt t1 (nI pz) (nI pa_2) pn (nI tz) tf) H := hP
    have hD : va_D A (wl_k_X3_readPart cI cJ cK xp p1 xt t1 (nI pz) (nI pa_2) pn (nI tz) tf) := hD
    try have hok1 := hok
    refine lv_istore_n (lv' := [(3, .int (nI v_1)), (2, .int (nI pa)), (0, .ref xp), (1, .ref xt)]) hx hb dX3_readPart_15 rfl hl (by decide) rfl (fun ls hl => ?_)
    refine lv_iload_n hx hb dX3_readPart_16 rfl (lv_at hl 0 rfl) ?_
    refine lv_if_ge (tgt := 25) hx hb dX3_readPart_17 (by decide) (fun c17 => ?_) (fun c17 => ?_)
    ·
      have d17 : ((v_1 : Nat) : Int) ≥ (0 : Int) := my_ge c17 (nI_toInt (by omega)) (by decide +kernel)
      refine lv_iconst (v := 1) hx hb dX3_readPart_25 (by decide +kernel) ?_
      refine lv_istore (lv' := [(4, .int 1), (3, .int (nI v_1)), (2, .int (nI pa)), (0, .ref xp), (1, .ref xt)]) hx hb dX3_readPart_26 hl (by decide) rfl (fun ls hl => ?_)
      refine lv_aload_n hx hb dX3_readPart_28 rfl (lv_at hl 4 rfl) ?_
      refine lv_aload_n hx hb dX3_readPart_29 rfl (lv_at hl 3 rfl) ?_
      refine va_get (ci := 3) (v := .int (nI pa_2)) (C := RX3) (T := TX3) (N := 3) hx hb hts hi3 hown hK hP 0 rfl rfl 2 (by decide) fl19 (fun _ h9 => h9) rfl dX3_readPart_30 ?_
      refine my_gpI (my_pV (As := [.int (nI pa_2)]) (rest := []) (ci := 5) ⟨hx, hb, hml, hown, hts⟩ (cwV 1 hts gX3_readPart_X5_at rfl rfl rfl (by decide +kernel) ⟨Nat.le_of_ble_eq_true rfl, Nat.le_of_ble_eq_true rfl⟩) hN hK hP [2, 3] rfl 2 rfl rfl rfl rfl hl.1 rfl (Nat.le_of_ble_eq_true rfl) dX3_readPart_33 ⟨Nat.le_of_ble_eq_true rfl, Nat.le_of_ble_eq_true rfl⟩  (k_X5_at l D cI cJ cK xt t1 tz tf pa_2 (by first | assumption | omega | decide +kernel) hR_tf (by first | assumption | omega | decide +kernel))) (fun r hp => ?_)
      rcases hp with ⟨rfl, ha_14⟩ | ⟨rfl, ha_15⟩
      ·
        refine lv_bipush (v := 120) hx hb dX3_readPart_36 (by decide +kernel) ?_
        refine lv_icmp_ne (tgt := 72) hx hb dX3_readPart_38 (by decide) (fun c38 => ?_) (fun c38 => ?_)
        ·
          have d38 : (tf pa_2).toInt ≠ (120 : Int) := my_ne c38 rfl (by decide +kernel)
          have hpt : ptOk tf tz pa ∧ ptT tf tz pa = 1 ∧ ptE tf tz pa = pa_2 ∧ ptV tf tz pa = v_1 := by first | (have q := pt_noX (f := tf) (n := tz) (a := pa) (by assumption) (by omega); exact ⟨q.2.2 hok1, q.1, q.2.1, by unfold ptV; symm; assumption⟩) | (have q := pt_X (f := tf) (n := tz) (a := pa) (by assumption) (by omega) (by assumption) (by assumption) (by assumption); exact ⟨q.2.2 hok1 hok, q.1, q.2.1, by unfold ptV; symm; assumption⟩)
          refine lv_aload_n hx hb dX3_readPart_72 rfl (lv_at hl 3 rfl) ?_
          refine va_get (ci := 3) (v := .int (nI pz)) (C := RX3) (T := TX3) (N := 3) hx hb hts hi3 hown hK hP 0 rfl rfl 1 (by decide) fl15 (fun _ h9 => h9) rfl dX3_readPart_73 ?_
          refine lv_iload hx hb dX3_readPart_76 (lv_at hl 0 rfl) ?_
          refine lv_iadd hx hb dX3_readPart_78 ?_
          refine my_eqi (y := nI (pz + 1)) (my_addN pz 1) ?_
          refine lv_bipush (v := 64) hx hb dX3_readPart_79 (by decide +kernel) ?_
          refine lv_icmp_le (tgt := 86) hx hb dX3_readPart_81 (by decide) (fun c81 => ?_) (fun c81 => ?_)
          ·
            have d81 : ((pz + 1 : Nat) : Int) ≤ (64 : Int) := my_le c81 (nI_toInt (by omega)) (by decide +kernel)
            refine lv_iconst (v := 0) hx hb dX3_readPart_86 (by decide +kernel) ?_
            refine lv_istore (lv' := [(5, .int 0), (4, .int 1), (3, .int (nI v_1)), (2, .int (nI pa)), (0, .ref xp), (1, .ref xt)]) hx hb dX3_readPart_87 hl (by decide) rfl (fun ls hl => ?_)
            have loop89 : ∀ (n9 : Nat) (k : Nat) (xp_size_89 : Nat) (p1_89 : Nat → Int32), 1 - k < n9 → (k ≤ 64) → (xp_size_89 = pz + k) → (k ≤ 1) → (p1_89 = fb_put pn (fun _ => nI v_1) pz k) → (xp_size_89 ≤ 64) → (RB 0 255 p1_89) → ∀ (H : Heap) (locs : List Loc) (ls : Array Slot), va_P D vwCl (wl_k_X3_readPart cI cJ cK xp p1 xt t1 (nI xp_size_89) (nI pa_2) p1_89 (nI tz) tf) H → va_D A (wl_k_X3_readPart cI cJ cK xp p1 xt t1 (nI xp_size_89) (nI pa_2) p1_89 (nI tz) tf) → va_S A s.heap H locs → lv_has ls 6 [(5, .int (nI k)), (4, .int 1), (3, .int (nI v_1)), (2, .int (nI pa)), (0, .ref xp), (1, .ref xt)] → W p l e ({ frames := 2, cells := 0, slots := 0, locals := 120 } : Room) s m [.ref xp, .ref xt].toArray below meth c H locs 0 0 (MQ below (va_Qi (fun (r : Int32) (u : va_W) => (∃ (pz' : Nat) (pa' : Nat) (pn' : Nat → Int32), u = (wl_k_X3_readPart cI cJ cK xp p1 xt t1 (nI pz') (nI pa') pn' (nI tz) tf) ∧ r = (-1) ∧ pz' ≤ 64 ∧ pa' ≤ 100 ∧ RB 0 255 pn' ∧ ptOk tf tz pa ∧ pz' = pz + ptT tf tz pa ∧ pa' = ptE tf tz pa ∧ pa' ≤ tz ∧ pa < pa' ∧ pn' = fb_put pn (fun _ => nI (ptV tf tz pa)) pz (ptT tf tz pa)) ∨ (∃ (pz' : Nat) (pa' : Nat) (pn' : Nat → Int32), u = (wl_k_X3_readPart cI cJ cK xp p1 xt t1 (nI pz') (nI pa') pn' (nI tz) tf) ∧ pz' ≤ 64 ∧ pa' ≤ 100 ∧ RB 0 255 pn' ∧ 0 ≤ r.toInt ∧ (¬ (ptOk tf tz pa ∧ pz + ptT tf tz pa ≤ 64)))) (my_B D (tyIJ cI cJ cK) A) A) [.ref xp, .ref xt].toArray s 0 0 A) (F0 m 89 ls []) := by
              intro n9
              induction n9 with
              | zero =>
                intro k xp_size_89 p1_89 hn9
                exact absurd hn9 (Nat.not_lt_zero _)
              | succ n9 ih89 =>
                intro k xp_size_89 p1_89 hn9 hk_k hs hk2 hfp hz_xp_size_89 hR_p1_89 H locs ls hP hD hS hl
                refine lv_iload hx hb dX3_readPart_89 (lv_at hl 0 rfl) ?_
                refine lv_iload hx hb dX3_readPart_91 (lv_at hl 1 rfl) ?_
                refine lv_icmp_ge (tgt := 122) hx hb dX3_readPart_93 (by decide) (fun c93 => ?_) (fun c93 => ?_)
                ·
                  have d93 : ((k : Nat) : Int) ≥ (1 : Int) := my_ge c93 (nI_toInt (by omega)) (by decide +kernel)
                  refine lv_iconst (v := (-1)) hx hb dX3_readPart_122 (by decide +kernel) ?_
                  have ec_16 : ((-1) : Int32).toInt = -1 := by decide +kernel
                  exact my_retI hx hb hr hlocks hK hS (wl_k_X3_readPart cI cJ cK xp p1 xt t1 (nI xp_size_89) (nI pa_2) p1_89 (nI tz) tf) hP hD (Or.inl ⟨xp_size_89, pa_2, p1_89, rfl, rfl, (by first | assumption | omega | trivial | decide +kernel), (by first | assumption | omega | trivial | decide +kernel), hR_p1_89, hpt.1, (by have h9 := hpt.2.1; omega), (by have h9 := hpt.2.2.1; omega), (by first | assumption | omega | trivial | decide +kernel), (by have h9 := hpt.2.2.1; have h8 := ptE_gt hpt.1; omega), (by rw [hpt.2.1, hpt.2.2.2]; refine hfp.trans ?_; congr 1; omega)⟩) dX3_readPart_123
                ·
                  have d93 : ((k : Nat) : Int) < (1 : Int) := my_nge c93 (nI_toInt (by omega)) (by decide +kernel)
                  refine lv_aload_n hx hb dX3_readPart_96 rfl (lv_at hl 4 rfl) ?_
                  refine va_get (ci := 3) (v := .ref p1) (C := RX3) (T := TX3) (N := 3) hx hb hts hi3 hown hK hP 0 rfl rfl 0 (by decide) fl9 (fun _ h9 => h9) rfl dX3_readPart_97 ?_
                  refine lv_aload_n hx hb dX3_readPart_100 rfl (lv_at hl 4 rfl) ?_
                  refine va_get (ci := 3) (v := .int (nI xp_size_89)) (C := RX3) (T := TX3) (N := 3) hx hb hts hi3 hown hK hP 0 rfl rfl 1 (by decide) fl15 (fun _ h9 => h9) rfl dX3_readPart_101 ?_
                  refine lv_iload_n hx hb dX3_readPart_104 rfl (lv_at hl 2 rfl) ?_
                  refine va_iast hx hb hK hP hD hS 1 0 rfl rfl (vp_in_nI (by omega) (by omega)) dX3_readPart_105 (fun H locs hP hD hS => ?_)
                  obtain ⟨g_17, eg_17⟩ : ∃ g : Nat → Int32, g = upd p1_89 xp_size_89 (nI v_1) := ⟨_, rfl⟩
                  have eU : upd p1_89 (nI xp_size_89 : Int32).toNatClampNeg (nI v_1) = g_17 := by rw [eg_17, show (nI xp_size_89 : Int32).toNatClampNeg = xp_size_89 from nI_clamp (by omega)]
                  rw [eU] at hP hD
                  have hR_g_17 : RB 0 255 g_17 := by rw [eg_17]; exact hR_p1_89.upd (nI_toInt (by omega)) (by omega) (by omega)
                  have hP : va_P D vwCl (wl_k_X3_readPart cI cJ cK xp p1 xt t1 (nI xp_size_89) (nI pa_2) g_17 (nI tz) tf) H := hP
                  have hD : va_D A (wl_k_X3_readPart cI cJ cK xp p1 xt t1 (nI xp_size_89) (nI pa_2) g_17 (nI tz) tf) := hD
                  refine lv_aload_n hx hb dX3_readPart_106 rfl (lv_at hl 4 rfl) ?_
                  refine lv_dup hx hb dX3_readPart_107 rfl ?_
                  refine va_get (ci := 3) (v := .int (nI xp_size_89)) (C := RX3) (T := TX3) (N := 3) hx hb hts hi3 hown hK hP 0 rfl rfl 1 (by decide) fl15 (fun _ h9 => h9) rfl dX3_readPart_108 ?_
                  refine lv_iconst (v := 1) hx hb dX3_readPart_111 (by decide +kernel) ?_
                  refine lv_iadd hx hb dX3_readPart_112 ?_
                  refine my_eqi (y := nI (xp_size_89 + 1)) (my_addN xp_size_89 1) ?_
                  refine va_put (ci := 3) (v := .int (nI (xp_size_89 + 1))) (ty := (.int)) (C := RX3) (T := TX3) (N := 3) hx hb hts hi3 tyX3 tyX3_ok nmX3 hown hK hP hD hS 0 rfl rfl 1 (by decide) fl15 (fun _ h9 => h9) rfl (by decide +kernel) rfl rfl (Nat.le_of_ble_eq_true rfl) dX3_readPart_113 (fun H locs hP hD hS => ?_)
                  have hP : va_P D vwCl (wl_k_X3_readPart cI cJ cK xp p1 xt t1 (nI (xp_size_89 + 1)) (nI pa_2) g_17 (nI tz) tf) H := hP
                  have hD : va_D A (wl_k_X3_readPart cI cJ cK xp p1 xt t1 (nI (xp_size_89 + 1)) (nI pa_2) g_17 (nI tz) tf) := hD
                  refine lv_iinc (v := nI (k + 1)) (lv' := [(5, .int (nI (k + 1))), (4, .int 1), (3, .int (nI v_1)), (2, .int (nI pa)), (0, .ref xp), (1, .ref xt)]) hx hb dX3_readPart_116 hl (k := 0) rfl (my_incN k 1 (by decide +kernel)) (by decide) rfl (fun ls hl => ?_)
                  refine lv_goto (tgt := 89) hx hb dX3_readPart_119 (by decide) ?_
                  exact ih89  (k + 1) (xp_size_89 + 1) g_17 (by omega) (by first | assumption | omega | decide +kernel) (by first | assumption | omega | decide +kernel) (by first | assumption | omega | decide +kernel) (fp_step hfp (by assumption) (by omega)) (by first | assumption | omega | decide +kernel) hR_g_17 _ _ ls hP hD hS (lv_sub hl [0, 1, 2, 3, 4, 5] rfl)
            exact loop89 ((1 - 0) + 1) 0 pz pn (Nat.lt_succ_self _) (by first | assumption | omega | decide +kernel) (by first | assumption | omega | decide +kernel) (by first | assumption | omega | decide +kernel) ((fb_put_0 _ _ _).symm) (by first | assumption | omega | decide +kernel) hR_pn _ _ ls hP hD hS (lv_sub hl [0, 1, 2, 3, 4, 5] rfl)
          ·
            have d81 : ((pz + 1 : Nat) : Int) > (64 : Int) := my_nle c81 (nI_toInt (by omega)) (by decide +kernel)
            refine lv_iload_n hx hb dX3_readPart_84 rfl (lv_at hl 2 rfl) ?_
            have ec_18 : (nI pa).toInt = _ := nI_toInt (by omega)
            exact my_retI hx hb hr hlocks hK hS (wl_k_X3_readPart cI cJ cK xp p1 xt t1 (nI pz) (nI pa_2) pn (nI tz) tf) hP hD (Or.inr (⟨pz, pa_2, pn, rfl, (by first | assumption | omega | trivial | decide +kernel), (by first | assumption | omega | trivial | decide +kernel), hR_pn, (by first | assumption | omega | trivial | decide +kernel), (by intro q; first | (exfalso; omega) | exact hno q.1.1 | exact pt_Xno (by assumption) (by omega) (by assumption) hno q.1 | (have h9 := q.2; have h8 := hpt.2.1; omega))⟩)) dX3_readPart_85
        ·
          have d38 : (tf pa_2).toInt = (120 : Int) := my_eq c38 rfl (by decide +kernel)
          refine lv_aload_n hx hb dX3_readPart_41 rfl (lv_at hl 3 rfl) ?_
          refine lv_dup hx hb dX3_readPart_42 rfl ?_
          refine va_get (ci := 3) (v := .int (nI pa_2)) (C := RX3) (T := TX3) (N := 3) hx hb hts hi3 hown hK hP 0 rfl rfl 2 (by decide) fl19 (fun _ h9 => h9) rfl dX3_readPart_43 ?_
          refine lv_iconst (v := 1) hx hb dX3_readPart_46 (by decide +kernel) ?_
          refine lv_iadd hx hb dX3_readPart_47 ?_
          refine my_eqi (y := nI (pa_2 + 1)) (my_addN pa_2 1) ?_
          refine va_put (ci := 3) (v := .int (nI (pa_2 + 1))) (ty := (.int)) (C := RX3) (T := TX3) (N := 3) hx hb hts hi3 tyX3 tyX3_ok nmX3 hown hK hP hD hS 0 rfl rfl 2 (by decide) fl19 (fun _ h9 => h9) rfl (by decide +kernel) rfl rfl (Nat.le_of_ble_eq_true rfl) dX3_readPart_48 (fun H locs hP hD hS => ?_)
          have hP : va_P D vwCl (wl_k_X3_readPart cI cJ cK xp p1 xt t1 (nI pz) (nI (pa_2 + 1)) pn (nI tz) tf) H := hP
          have hD : va_D A (wl_k_X3_readPart cI cJ cK xp p1 xt t1 (nI pz) (nI (pa_2 + 1)) pn (nI tz) tf) := hD
          refine lv_aload_n hx hb dX3_readPart_51 rfl (lv_at hl 3 rfl) ?_
          refine lv_aload_n hx hb dX3_readPart_52 rfl (lv_at hl 4 rfl) ?_
          refine lv_iconst (v := 2) hx hb dX3_readPart_53 (by decide +kernel) ?_
          refine lv_iconst (v := 1) hx hb dX3_readPart_54 (by decide +kernel) ?_
          refine lv_bipush (v := 64) hx hb dX3_readPart_55 (by decide +kernel) ?_
          refine my_goIS (wc := (wl_k_X3_readDigits cI cJ cK xp p1 xt t1 (nI pz) (nI (pa_2 + 1)) (nI tz) tf)) hP hD hS hA [0, 2, 3] rfl [some 0, none, some 1, some 2] (by decide +kernel) (my_cV (As := [.ref xt, .int 2, .int 1, .int 64]) (rest := []) (ci := 3) (wc := (wl_k_X3_readDigits cI cJ cK xp p1 xt t1 (nI pz) (nI (pa_2 + 1)) (nI tz) tf)) ⟨hx, hb, hml, hown, hts⟩ (cwV 4 hts gX3_readPart_X3_readDigits rfl rfl rfl (by decide +kernel) ⟨Nat.le_of_ble_eq_true rfl, Nat.le_of_ble_eq_true rfl⟩) hN hK hP hD [0, 2, 3] rfl (by decide) rfl 0 rfl rfl rfl rfl hl.1 rfl (Nat.le_of_ble_eq_true rfl) dX3_readPart_57 ⟨Nat.le_of_ble_eq_true rfl, Nat.le_of_ble_eq_true rfl⟩  ((k_X3_readDigits l D cI cJ cK xp p1 xt t1 pz (pa_2 + 1) tz tf 2 1 64 (by first | assumption | omega | decide +kernel) (by first | assumption | omega | decide +kernel) (by first | assumption | omega | decide +kernel) hR_tf (by first | assumption | omega | decide +kernel) (by first | assumption | omega | decide +kernel) (by first | assumption | omega | decide +kernel) (by first | assumption | omega | decide +kernel)) _)) (fun r u H locs hp hPD hS => ?_)
          rcases hp with ⟨v_19, pa_20, rfl, rfl, hhz_pa_21, hok, hv_22, he_23, ht_24, hu_25, hw_26, hx_27⟩ | ⟨pa_28, rfl, rfl, hhz_pa_29, hno, ht_30, hu_31⟩
          ·
            obtain ⟨hP, hD⟩ := hPD rfl
            have hP : va_P D vwCl (wl_k_X3_readPart cI cJ cK xp p1 xt t1 (nI pz) (nI pa_20) pn (nI tz) tf) H := hP
            have hD : va_D A (wl_k_X3_readPart cI cJ cK xp p1 xt t1 (nI pz) (nI pa_20) pn (nI tz) tf) := hD
            refine lv_istore (lv' := [(4, .int (nI v_19)), (3, .int (nI v_1)), (2, .int (nI pa)), (0, .ref xp), (1, .ref xt)]) hx hb dX3_readPart_60 hl (by decide) rfl (fun ls hl => ?_)
            refine lv_iload hx hb dX3_readPart_62 (lv_at hl 0 rfl) ?_
            refine lv_if_ge (tgt := 72) hx hb dX3_readPart_64 (by decide) (fun c64 => ?_) (fun c64 => ?_)
            ·
              have d64 : ((v_19 : Nat) : Int) ≥ (0 : Int) := my_ge c64 (nI_toInt (by omega)) (by decide +kernel)
              have hpt : ptOk tf tz pa ∧ ptT tf tz pa = v_19 ∧ ptE tf tz pa = pa_20 ∧ ptV tf tz pa = v_1 := by first | (have q := pt_noX (f := tf) (n := tz) (a := pa) (by assumption) (by omega); exact ⟨q.2.2 hok1, q.1, q.2.1, by unfold ptV; symm; assumption⟩) | (have q := pt_X (f := tf) (n := tz) (a := pa) (by assumption) (by omega) (by assumption) (by assumption) (by assumption); exact ⟨q.2.2 hok1 hok, q.1, q.2.1, by unfold ptV; symm; assumption⟩)
              refine lv_aload_n hx hb dX3_readPart_72 rfl (lv_at hl 3 rfl) ?_
              refine va_get (ci := 3) (v := .int (nI pz)) (C := RX3) (T := TX3) (N := 3) hx hb hts hi3 hown hK hP 0 rfl rfl 1 (by decide) fl15 (fun _ h9 => h9) rfl dX3_readPart_73 ?_
              refine lv_iload hx hb dX3_readPart_76 (lv_at hl 0 rfl) ?_
              refine lv_iadd hx hb dX3_readPart_78 ?_
              refine my_eqi (y := nI (pz + v_19)) (nI_add _ _) ?_
              refine lv_bipush (v := 64) hx hb dX3_readPart_79 (by decide +kernel) ?_
              refine lv_icmp_le (tgt := 86) hx hb dX3_readPart_81 (by decide) (fun c81 => ?_) (fun c81 => ?_)
              ·
                have d81 : ((pz + v_19 : Nat) : Int) ≤ (64 : Int) := my_le c81 (nI_toInt (by omega)) (by decide +kernel)
                refine lv_iconst (v := 0) hx hb dX3_readPart_86 (by decide +kernel) ?_
                refine lv_istore (lv' := [(5, .int 0), (4, .int (nI v_19)), (3, .int (nI v_1)), (2, .int (nI pa)), (0, .ref xp), (1, .ref xt)]) hx hb dX3_readPart_87 hl (by decide) rfl (fun ls hl => ?_)
                have loop89 : ∀ (n9 : Nat) (k : Nat) (xp_size_89 : Nat) (p1_89 : Nat → Int32), v_19 - k < n9 → (k ≤ 64) → (xp_size_89 = pz + k) → (k ≤ v_19) → (p1_89 = fb_put pn (fun _ => nI v_1) pz k) → (xp_size_89 ≤ 64) → (RB 0 255 p1_89) → ∀ (H : Heap) (locs : List Loc) (ls : Array Slot), va_P D vwCl (wl_k_X3_readPart cI cJ cK xp p1 xt t1 (nI xp_size_89) (nI pa_20) p1_89 (nI tz) tf) H → va_D A (wl_k_X3_readPart cI cJ cK xp p1 xt t1 (nI xp_size_89) (nI pa_20) p1_89 (nI tz) tf) → va_S A s.heap H locs → lv_has ls 6 [(5, .int (nI k)), (4, .int (nI v_19)), (3, .int (nI v_1)), (2, .int (nI pa)), (0, .ref xp), (1, .ref xt)] → W p l e ({ frames := 2, cells := 0, slots := 0, locals := 120 } : Room) s m [.ref xp, .ref xt].toArray below meth c H locs 0 0 (MQ below (va_Qi (fun (r : Int32) (u : va_W) => (∃ (pz' : Nat) (pa' : Nat) (pn' : Nat → Int32), u = (wl_k_X3_readPart cI cJ cK xp p1 xt t1 (nI pz') (nI pa') pn' (nI tz) tf) ∧ r = (-1) ∧ pz' ≤ 64 ∧ pa' ≤ 100 ∧ RB 0 255 pn' ∧ ptOk tf tz pa ∧ pz' = pz + ptT tf tz pa ∧ pa' = ptE tf tz pa ∧ pa' ≤ tz ∧ pa < pa' ∧ pn' = fb_put pn (fun _ => nI (ptV tf tz pa)) pz (ptT tf tz pa)) ∨ (∃ (pz' : Nat) (pa' : Nat) (pn' : Nat → Int32), u = (wl_k_X3_readPart cI cJ cK xp p1 xt t1 (nI pz') (nI pa') pn' (nI tz) tf) ∧ pz' ≤ 64 ∧ pa' ≤ 100 ∧ RB 0 255 pn' ∧ 0 ≤ r.toInt ∧ (¬ (ptOk tf tz pa ∧ pz + ptT tf tz pa ≤ 64)))) (my_B D (tyIJ cI cJ cK) A) A) [.ref xp, .ref xt].toArray s 0 0 A) (F0 m 89 ls []) := by
                  intro n9
                  induction n9 with
                  | zero =>
                    intro k xp_size_89 p1_89 hn9
                    exact absurd hn9 (Nat.not_lt_zero _)
                  | succ n9 ih89 =>
                    intro k xp_size_89 p1_89 hn9 hk_k hs hk2 hfp hz_xp_size_89 hR_p1_89 H locs ls hP hD hS hl
                    refine lv_iload hx hb dX3_readPart_89 (lv_at hl 0 rfl) ?_
                    refine lv_iload hx hb dX3_readPart_91 (lv_at hl 1 rfl) ?_
                    refine lv_icmp_ge (tgt := 122) hx hb dX3_readPart_93 (by decide) (fun c93 => ?_) (fun c93 => ?_)
                    ·
                      have d93 : ((k : Nat) : Int) ≥ ((v_19 : Nat) : Int) := my_ge c93 (nI_toInt (by omega)) (nI_toInt (by omega))
                      refine lv_iconst (v := (-1)) hx hb dX3_readPart_122 (by decide +kernel) ?_
                      have ec_32 : ((-1) : Int32).toInt = -1 := by decide +kernel
                      exact my_retI hx hb hr hlocks hK hS (wl_k_X3_readPart cI cJ cK xp p1 xt t1 (nI xp_size_89) (nI pa_20) p1_89 (nI tz) tf) hP hD (Or.inl ⟨xp_size_89, pa_20, p1_89, rfl, rfl, (by first | assumption | omega | trivial | decide +kernel), (by first | assumption | omega | trivial | decide +kernel), hR_p1_89, hpt.1, (by have h9 := hpt.2.1; omega), (by have h9 := hpt.2.2.1; omega), (by first | assumption | omega | trivial | decide +kernel), (by have h9 := hpt.2.2.1; have h8 := ptE_gt hpt.1; omega), (by rw [hpt.2.1, hpt.2.2.2]; refine hfp.trans ?_; congr 1; omega)⟩) dX3_readPart_123
                    ·
                      have d93 : ((k : Nat) : Int) < ((v_19 : Nat) : Int) := my_nge c93 (nI_toInt (by omega)) (nI_toInt (by omega))
                      refine lv_aload_n hx hb dX3_readPart_96 rfl (lv_at hl 4 rfl) ?_
                      refine va_get (ci := 3) (v := .ref p1) (C := RX3) (T := TX3) (N := 3) hx hb hts hi3 hown hK hP 0 rfl rfl 0 (by decide) fl9 (fun _ h9 => h9) rfl dX3_readPart_97 ?_
                      refine lv_aload_n hx hb dX3_readPart_100 rfl (lv_at hl 4 rfl) ?_
                      refine va_get (ci := 3) (v := .int (nI xp_size_89)) (C := RX3) (T := TX3) (N := 3) hx hb hts hi3 hown hK hP 0 rfl rfl 1 (by decide) fl15 (fun _ h9 => h9) rfl dX3_readPart_101 ?_
                      refine lv_iload_n hx hb dX3_readPart_104 rfl (lv_at hl 2 rfl) ?_
                      refine va_iast hx hb hK hP hD hS 1 0 rfl rfl (vp_in_nI (by omega) (by omega)) dX3_readPart_105 (fun H locs hP hD hS => ?_)
                      obtain ⟨g_33, eg_33⟩ : ∃ g : Nat → Int32, g = upd p1_89 xp_size_89 (nI v_1) := ⟨_, rfl⟩
                      have eU : upd p1_89 (nI xp_size_89 : Int32).toNatClampNeg (nI v_1) = g_33 := by rw [eg_33, show (nI xp_size_89 : Int32).toNatClampNeg = xp_size_89 from nI_clamp (by omega)]
                      rw [eU] at hP hD
                      have hR_g_33 : RB 0 255 g_33 := by rw [eg_33]; exact hR_p1_89.upd (nI_toInt (by omega)) (by omega) (by omega)
                      have hP : va_P D vwCl (wl_k_X3_readPart cI cJ cK xp p1 xt t1 (nI xp_size_89) (nI pa_20) g_33 (nI tz) tf) H := hP
                      have hD : va_D A (wl_k_X3_readPart cI cJ cK xp p1 xt t1 (nI xp_size_89) (nI pa_20) g_33 (nI tz) tf) := hD
                      refine lv_aload_n hx hb dX3_readPart_106 rfl (lv_at hl 4 rfl) ?_
                      refine lv_dup hx hb dX3_readPart_107 rfl ?_
                      refine va_get (ci := 3) (v := .int (nI xp_size_89)) (C := RX3) (T := TX3) (N := 3) hx hb hts hi3 hown hK hP 0 rfl rfl 1 (by decide) fl15 (fun _ h9 => h9) rfl dX3_readPart_108 ?_
                      refine lv_iconst (v := 1) hx hb dX3_readPart_111 (by decide +kernel) ?_
                      refine lv_iadd hx hb dX3_readPart_112 ?_
                      refine my_eqi (y := nI (xp_size_89 + 1)) (my_addN xp_size_89 1) ?_
                      refine va_put (ci := 3) (v := .int (nI (xp_size_89 + 1))) (ty := (.int)) (C := RX3) (T := TX3) (N := 3) hx hb hts hi3 tyX3 tyX3_ok nmX3 hown hK hP hD hS 0 rfl rfl 1 (by decide) fl15 (fun _ h9 => h9) rfl (by decide +kernel) rfl rfl (Nat.le_of_ble_eq_true rfl) dX3_readPart_113 (fun H locs hP hD hS => ?_)
                      have hP : va_P D vwCl (wl_k_X3_readPart cI cJ cK xp p1 xt t1 (nI (xp_size_89 + 1)) (nI pa_20) g_33 (nI tz) tf) H := hP
                      have hD : va_D A (wl_k_X3_readPart cI cJ cK xp p1 xt t1 (nI (xp_size_89 + 1)) (nI pa_20) g_33 (nI tz) tf) := hD
                      refine lv_iinc (v := nI (k + 1)) (lv' := [(5, .int (nI (k + 1))), (4, .int (nI v_19)), (3, .int (nI v_1)), (2, .int (nI pa)), (0, .ref xp), (1, .ref xt)]) hx hb dX3_readPart_116 hl (k := 0) rfl (my_incN k 1 (by decide +kernel)) (by decide) rfl (fun ls hl => ?_)
                      refine lv_goto (tgt := 89) hx hb dX3_readPart_119 (by decide) ?_
                      exact ih89  (k + 1) (xp_size_89 + 1) g_33 (by omega) (by first | assumption | omega | decide +kernel) (by first | assumption | omega | decide +kernel) (by first | assumption | omega | decide +kernel) (fp_step hfp (by assumption) (by omega)) (by first | assumption | omega | decide +kernel) hR_g_33 _ _ ls hP hD hS (lv_sub hl [0, 1, 2, 3, 4, 5] rfl)
                exact loop89 ((v_19 - 0) + 1) 0 pz pn (Nat.lt_succ_self _) (by first | assumption | omega | decide +kernel) (by first | assumption | omega | decide +kernel) (by first | assumption | omega | decide +kernel) ((fb_put_0 _ _ _).symm) (by first | assumption | omega | decide +kernel) hR_pn _ _ ls hP hD hS (lv_sub hl [0, 1, 2, 3, 4, 5] rfl)
              ·
                have d81 : ((pz + v_19 : Nat) : Int) > (64 : Int) := my_nle c81 (nI_toInt (by omega)) (by decide +kernel)
                refine lv_iload_n hx hb dX3_readPart_84 rfl (lv_at hl 2 rfl) ?_
                have ec_34 : (nI pa).toInt = _ := nI_toInt (by omega)
                exact my_retI hx hb hr hlocks hK hS (wl_k_X3_readPart cI cJ cK xp p1 xt t1 (nI pz) (nI pa_20) pn (nI tz) tf) hP hD (Or.inr (⟨pz, pa_20, pn, rfl, (by first | assumption | omega | trivial | decide +kernel), (by first | assumption | omega | trivial | decide +kernel), hR_pn, (by first | assumption | omega | trivial | decide +kernel), (by intro q; first | (exfalso; omega) | exact hno q.1.1 | exact pt_Xno (by assumption) (by omega) (by assumption) hno q.1 | (have h9 := q.2; have h8 := hpt.2.1; omega))⟩)) dX3_readPart_85
            ·
              have d64 : ((v_19 : Nat) : Int) < (0 : Int) := my_nge c64 (nI_toInt (by omega)) (by decide +kernel)
              refine lv_aload_n hx hb dX3_readPart_67 rfl (lv_at hl 3 rfl) ?_
              refine va_get (ci := 3) (v := .int (nI pa_20)) (C := RX3) (T := TX3) (N := 3) hx hb hts hi3 hown hK hP 0 rfl rfl 2 (by decide) fl19 (fun _ h9 => h9) rfl dX3_readPart_68 ?_
              have ec_35 : (nI pa_20).toInt = _ := nI_toInt (by omega)
              exact my_retI hx hb hr hlocks hK hS (wl_k_X3_readPart cI cJ cK xp p1 xt t1 (nI pz) (nI pa_20) pn (nI tz) tf) hP hD (Or.inr (⟨pz, pa_20, pn, rfl, (by first | assumption | omega | trivial | decide +kernel), (by first | assumption | omega | trivial | decide +kernel), hR_pn, (by first | assumption | omega | trivial | decide +kernel), (by intro q; first | (exfalso; omega) | exact hno q.1.1 | exact pt_Xno (by assumption) (by omega) (by assumption) hno q.1 | (have h9 := q.2; have h8 := hpt.2.1; omega))⟩)) dX3_readPart_71
          ·
            obtain ⟨hP, hD⟩ := hPD rfl
            have hP : va_P D vwCl (wl_k_X3_readPart cI cJ cK xp p1 xt t1 (nI pz) (nI pa_28) pn (nI tz) tf) H := hP
            have hD : va_D A (wl_k_X3_readPart cI cJ cK xp p1 xt t1 (nI pz) (nI pa_28) pn (nI tz) tf) := hD
            refine lv_istore (lv' := [(4, .int (-1)), (3, .int (nI v_1)), (2, .int (nI pa)), (0, .ref xp), (1, .ref xt)]) hx hb dX3_readPart_60 hl (by decide) rfl (fun ls hl => ?_)
            refine lv_iload hx hb dX3_readPart_62 (lv_at hl 0 rfl) ?_
            refine lv_if_ge (tgt := 72) hx hb dX3_readPart_64 (by decide) (fun c64 => ?_) (fun c64 => ?_)
            ·
              exact absurd c64 (by decide +kernel)
            ·
              refine lv_aload_n hx hb dX3_readPart_67 rfl (lv_at hl 3 rfl) ?_
              refine va_get (ci := 3) (v := .int (nI pa_28)) (C := RX3) (T := TX3) (N := 3) hx hb hts hi3 hown hK hP 0 rfl rfl 2 (by decide) fl19 (fun _ h9 => h9) rfl dX3_readPart_68 ?_
              have ec_36 : (nI pa_28).toInt = _ := nI_toInt (by omega)
              exact my_retI hx hb hr hlocks hK hS (wl_k_X3_readPart cI cJ cK xp p1 xt t1 (nI pz) (nI pa_28) pn (nI tz) tf) hP hD (Or.inr (⟨pz, pa_28, pn, rfl, (by first | assumption | omega | trivial | decide +kernel), (by first | assumption | omega | trivial | decide +kernel), hR_pn, (by first | assumption | omega | trivial | decide +kernel), (by intro q; first | (exfalso; omega) | exact hno q.1.1 | exact pt_Xno (by assumption) (by omega) (by assumption) hno q.1 | (have h9 := q.2; have h8 := hpt.2.1; omega))⟩)) dX3_readPart_71
      ·
        refine lv_bipush (v := 120) hx hb dX3_readPart_36 (by decide +kernel) ?_
        refine lv_icmp_ne (tgt := 72) hx hb dX3_readPart_38 (by decide) (fun c38 => ?_) (fun c38 => ?_)
        ·
          have hpt : ptOk tf tz pa ∧ ptT tf tz pa = 1 ∧ ptE tf tz pa = pa_2 ∧ ptV tf tz pa = v_1 := by first | (have q := pt_noX (f := tf) (n := tz) (a := pa) (by assumption) (by omega); exact ⟨q.2.2 hok1, q.1, q.2.1, by unfold ptV; symm; assumption⟩) | (have q := pt_X (f := tf) (n := tz) (a := pa) (by assumption) (by omega) (by assumption) (by assumption) (by assumption); exact ⟨q.2.2 hok1 hok, q.1, q.2.1, by unfold ptV; symm; assumption⟩)
          refine lv_aload_n hx hb dX3_readPart_72 rfl (lv_at hl 3 rfl) ?_
          refine va_get (ci := 3) (v := .int (nI pz)) (C := RX3) (T := TX3) (N := 3) hx hb hts hi3 hown hK hP 0 rfl rfl 1 (by decide) fl15 (fun _ h9 => h9) rfl dX3_readPart_73 ?_
          refine lv_iload hx hb dX3_readPart_76 (lv_at hl 0 rfl) ?_
          refine lv_iadd hx hb dX3_readPart_78 ?_
          refine my_eqi (y := nI (pz + 1)) (my_addN pz 1) ?_
          refine lv_bipush (v := 64) hx hb dX3_readPart_79 (by decide +kernel) ?_
          refine lv_icmp_le (tgt := 86) hx hb dX3_readPart_81 (by decide) (fun c81 => ?_) (fun c81 => ?_)
          ·
            have d81 : ((pz + 1 : Nat) : Int) ≤ (64 : Int) := my_le c81 (nI_toInt (by omega)) (by decide +kernel)
            refine lv_iconst (v := 0) hx hb dX3_readPart_86 (by decide +kernel) ?_
            refine lv_istore (lv' := [(5, .int 0), (4, .int 1), (3, .int (nI v_1)), (2, .int (nI pa)), (0, .ref xp), (1, .ref xt)]) hx hb dX3_readPart_87 hl (by decide) rfl (fun ls hl => ?_)
            have loop89 : ∀ (n9 : Nat) (k : Nat) (xp_size_89 : Nat) (p1_89 : Nat → Int32), 1 - k < n9 → (k ≤ 64) → (xp_size_89 = pz + k) → (k ≤ 1) → (p1_89 = fb_put pn (fun _ => nI v_1) pz k) → (xp_size_89 ≤ 64) → (RB 0 255 p1_89) → ∀ (H : Heap) (locs : List Loc) (ls : Array Slot), va_P D vwCl (wl_k_X3_readPart cI cJ cK xp p1 xt t1 (nI xp_size_89) (nI pa_2) p1_89 (nI tz) tf) H → va_D A (wl_k_X3_readPart cI cJ cK xp p1 xt t1 (nI xp_size_89) (nI pa_2) p1_89 (nI tz) tf) → va_S A s.heap H locs → lv_has ls 6 [(5, .int (nI k)), (4, .int 1), (3, .int (nI v_1)), (2, .int (nI pa)), (0, .ref xp), (1, .ref xt)] → W p l e ({ frames := 2, cells := 0, slots := 0, locals := 120 } : Room) s m [.ref xp, .ref xt].toArray below meth c H locs 0 0 (MQ below (va_Qi (fun (r : Int32) (u : va_W) => (∃ (pz' : Nat) (pa' : Nat) (pn' : Nat → Int32), u = (wl_k_X3_readPart cI cJ cK xp p1 xt t1 (nI pz') (nI pa') pn' (nI tz) tf) ∧ r = (-1) ∧ pz' ≤ 64 ∧ pa' ≤ 100 ∧ RB 0 255 pn' ∧ ptOk tf tz pa ∧ pz' = pz + ptT tf tz pa ∧ pa' = ptE tf tz pa ∧ pa' ≤ tz ∧ pa < pa' ∧ pn' = fb_put pn (fun _ => nI (ptV tf tz pa)) pz (ptT tf tz pa)) ∨ (∃ (pz' : Nat) (pa' : Nat) (pn' : Nat → Int32), u = (wl_k_X3_readPart cI cJ cK xp p1 xt t1 (nI pz') (nI pa') pn' (nI tz) tf) ∧ pz' ≤ 64 ∧ pa' ≤ 100 ∧ RB 0 255 pn' ∧ 0 ≤ r.toInt ∧ (¬ (ptOk tf tz pa ∧ pz + ptT tf tz pa ≤ 64)))) (my_B D (tyIJ cI cJ cK) A) A) [.ref xp, .ref xt].toArray s 0 0 A) (F0 m 89 ls []) := by
              intro n9
              induction n9 with
              | zero =>
                intro k xp_size_89 p1_89 hn9
                exact absurd hn9 (Nat.not_lt_zero _)
              | succ n9 ih89 =>
                intro k xp_size_89 p1_89 hn9 hk_k hs hk2 hfp hz_xp_size_89 hR_p1_89 H locs ls hP hD hS hl
                refine lv_iload hx hb dX3_readPart_89 (lv_at hl 0 rfl) ?_
                refine lv_iload hx hb dX3_readPart_91 (lv_at hl 1 rfl) ?_
                refine lv_icmp_ge (tgt := 122) hx hb dX3_readPart_93 (by decide) (fun c93 => ?_) (fun c93 => ?_)
                ·
                  have d93 : ((k : Nat) : Int) ≥ (1 : Int) := my_ge c93 (nI_toInt (by omega)) (by decide +kernel)
                  refine lv_iconst (v := (-1)) hx hb dX3_readPart_122 (by decide +kernel) ?_
                  have ec_37 : ((-1) : Int32).toInt = -1 := by decide +kernel
                  exact my_retI hx hb hr hlocks hK hS (wl_k_X3_readPart cI cJ cK xp p1 xt t1 (nI xp_size_89) (nI pa_2) p1_89 (nI tz) tf) hP hD (Or.inl ⟨xp_size_89, pa_2, p1_89, rfl, rfl, (by first | assumption | omega | trivial | decide +kernel), (by first | assumption | omega | trivial | decide +kernel), hR_p1_89, hpt.1, (by have h9 := hpt.2.1; omega), (by have h9 := hpt.2.2.1; omega), (by first | assumption | omega | trivial | decide +kernel), (by have h9 := hpt.2.2.1; have h8 := ptE_gt hpt.1; omega), (by rw [hpt.2.1, hpt.2.2.2]; refine hfp.trans ?_; congr 1; omega)⟩) dX3_readPart_123
                ·
                  have d93 : ((k : Nat) : Int) < (1 : Int) := my_nge c93 (nI_toInt (by omega)) (by decide +kernel)
                  refine lv_aload_n hx hb dX3_readPart_96 rfl (lv_at hl 4 rfl) ?_
                  refine va_get (ci := 3) (v := .ref p1) (C := RX3) (T := TX3) (N := 3) hx hb hts hi3 hown hK hP 0 rfl rfl 0 (by decide) fl9 (fun _ h9 => h9) rfl dX3_readPart_97 ?_
                  refine lv_aload_n hx hb dX3_readPart_100 rfl (lv_at hl 4 rfl) ?_
                  refine va_get (ci := 3) (v := .int (nI xp_size_89)) (C := RX3) (T := TX3) (N := 3) hx hb hts hi3 hown hK hP 0 rfl rfl 1 (by decide) fl15 (fun _ h9 => h9) rfl dX3_readPart_101 ?_
                  refine lv_iload_n hx hb dX3_readPart_104 rfl (lv_at hl 2 rfl) ?_
                  refine va_iast hx hb hK hP hD hS 1 0 rfl rfl (vp_in_nI (by omega) (by omega)) dX3_readPart_105 (fun H locs hP hD hS => ?_)
                  obtain ⟨g_38, eg_38⟩ : ∃ g : Nat → Int32, g = upd p1_89 xp_size_89 (nI v_1) := ⟨_, rfl⟩
                  have eU : upd p1_89 (nI xp_size_89 : Int32).toNatClampNeg (nI v_1) = g_38 := by rw [eg_38, show (nI xp_size_89 : Int32).toNatClampNeg = xp_size_89 from nI_clamp (by omega)]
                  rw [eU] at hP hD
                  have hR_g_38 : RB 0 255 g_38 := by rw [eg_38]; exact hR_p1_89.upd (nI_toInt (by omega)) (by omega) (by omega)
                  have hP : va_P D vwCl (wl_k_X3_readPart cI cJ cK xp p1 xt t1 (nI xp_size_89) (nI pa_2) g_38 (nI tz) tf) H := hP
                  have hD : va_D A (wl_k_X3_readPart cI cJ cK xp p1 xt t1 (nI xp_size_89) (nI pa_2) g_38 (nI tz) tf) := hD
                  refine lv_aload_n hx hb dX3_readPart_106 rfl (lv_at hl 4 rfl) ?_
                  refine lv_dup hx hb dX3_readPart_107 rfl ?_
                  refine va_get (ci := 3) (v := .int (nI xp_size_89)) (C := RX3) (T := TX3) (N := 3) hx hb hts hi3 hown hK hP 0 rfl rfl 1 (by decide) fl15 (fun _ h9 => h9) rfl dX3_readPart_108 ?_
                  refine lv_iconst (v := 1) hx hb dX3_readPart_111 (by decide +kernel) ?_
                  refine lv_iadd hx hb dX3_readPart_112 ?_
                  refine my_eqi (y := nI (xp_size_89 + 1)) (my_addN xp_size_89 1) ?_
                  refine va_put (ci := 3) (v := .int (nI (xp_size_89 + 1))) (ty := (.int)) (C := RX3) (T := TX3) (N := 3) hx hb hts hi3 tyX3 tyX3_ok nmX3 hown hK hP hD hS 0 rfl rfl 1 (by decide) fl15 (fun _ h9 => h9) rfl (by decide +kernel) rfl rfl (Nat.le_of_ble_eq_true rfl) dX3_readPart_113 (fun H locs hP hD hS => ?_)
                  have hP : va_P D vwCl (wl_k_X3_readPart cI cJ cK xp p1 xt t1 (nI (xp_size_89 + 1)) (nI pa_2) g_38 (nI tz) tf) H := hP
                  have hD : va_D A (wl_k_X3_readPart cI cJ cK xp p1 xt t1 (nI (xp_size_89 + 1)) (nI pa_2) g_38 (nI tz) tf) := hD
                  refine lv_iinc (v := nI (k + 1)) (lv' := [(5, .int (nI (k + 1))), (4, .int 1), (3, .int (nI v_1)), (2, .int (nI pa)), (0, .ref xp), (1, .ref xt)]) hx hb dX3_readPart_116 hl (k := 0) rfl (my_incN k 1 (by decide +kernel)) (by decide) rfl (fun ls hl => ?_)
                  refine lv_goto (tgt := 89) hx hb dX3_readPart_119 (by decide) ?_
                  exact ih89  (k + 1) (xp_size_89 + 1) g_38 (by omega) (by first | assumption | omega | decide +kernel) (by first | assumption | omega | decide +kernel) (by first | assumption | omega | decide +kernel) (fp_step hfp (by assumption) (by omega)) (by first | assumption | omega | decide +kernel) hR_g_38 _ _ ls hP hD hS (lv_sub hl [0, 1, 2, 3, 4, 5] rfl)
            exact loop89 ((1 - 0) + 1) 0 pz pn (Nat.lt_succ_self _) (by first | assumption | omega | decide +kernel) (by first | assumption | omega | decide +kernel) (by first | assumption | omega | decide +kernel) ((fb_put_0 _ _ _).symm) (by first | assumption | omega | decide +kernel) hR_pn _ _ ls hP hD hS (lv_sub hl [0, 1, 2, 3, 4, 5] rfl)
          ·
            have d81 : ((pz + 1 : Nat) : Int) > (64 : Int) := my_nle c81 (nI_toInt (by omega)) (by decide +kernel)
            refine lv_iload_n hx hb dX3_readPart_84 rfl (lv_at hl 2 rfl) ?_
            have ec_39 : (nI pa).toInt = _ := nI_toInt (by omega)
            exact my_retI hx hb hr hlocks hK hS (wl_k_X3_readPart cI cJ cK xp p1 xt t1 (nI pz) (nI pa_2) pn (nI tz) tf) hP hD (Or.inr (⟨pz, pa_2, pn, rfl, (by first | assumption | omega | trivial | decide +kernel), (by first | assumption | omega | trivial | decide +kernel), hR_pn, (by first | assumption | omega | trivial | decide +kernel), (by intro q; first | (exfalso; omega) | exact hno q.1.1 | exact pt_Xno (by assumption) (by omega) (by assumption) hno q.1 | (have h9 := q.2; have h8 := hpt.2.1; omega))⟩)) dX3_readPart_85
        ·
          exact absurd c38 (by decide +kernel)
    ·
      have d17 : ((v_1 : Nat) : Int) < (0 : Int) := my_nge c17 (nI_toInt (by omega)) (by decide +kernel)
      refine lv_aload_n hx hb dX3_readPart_20 rfl (lv_at hl 2 rfl) ?_
      refine va_get (ci := 3) (v := .int (nI pa_2)) (C := RX3) (T := TX3) (N := 3) hx hb hts hi3 hown hK hP 0 rfl rfl 2 (by decide) fl19 (fun _ h9 => h9) rfl dX3_readPart_21 ?_
      have ec_40 : (nI pa_2).toInt = _ := nI_toInt (by omega)
      exact my_retI hx hb hr hlocks hK hS (wl_k_X3_readPart cI cJ cK xp p1 xt t1 (nI pz) (nI pa_2) pn (nI tz) tf) hP hD (Or.inr (⟨pz, pa_2, pn, rfl, (by first | assumption | omega | trivial | decide +kernel), (by first | assumption | omega | trivial | decide +kernel), hR_pn, (by first | assumption | omega | trivial | decide +kernel), (by intro q; first | (exfalso; omega) | exact hno q.1.1 | exact pt_Xno (by assumption) (by omega) (by assumption) hno q.1 | (have h9 := q.2; have h8 := hpt.2.1; omega))⟩)) dX3_readPart_24
  ·
    obtain ⟨hP, hD⟩ := hPD rfl
    have hP : va_P D vwCl (wl_k_X3_readPart cI cJ cK xp p1 xt t1 (nI pz) (nI pa_10) pn (nI tz) tf) H := hP
    have hD : va_D A (wl_k_X3_readPart cI cJ cK xp p1 xt t1 (nI pz) (nI pa_10) pn (nI tz) tf) := hD
    try have hok1 := hok
    refine lv_istore_n (lv' := [(3, .int (-1)), (2, .int (nI pa)), (0, .ref xp), (1, .ref xt)]) hx hb dX3_readPart_15 rfl hl (by decide) rfl (fun ls hl => ?_)
    refine lv_iload_n hx hb dX3_readPart_16 rfl (lv_at hl 0 rfl) ?_
    refine lv_if_ge (tgt := 25) hx hb dX3_readPart_17 (by decide) (fun c17 => ?_) (fun c17 => ?_)
    ·
      exact absurd c17 (by decide +kernel)
    ·
      refine lv_aload_n hx hb dX3_readPart_20 rfl (lv_at hl 2 rfl) ?_
      refine va_get (ci := 3) (v := .int (nI pa_10)) (C := RX3) (T := TX3) (N := 3) hx hb hts hi3 hown hK hP 0 rfl rfl 2 (by decide) fl19 (fun _ h9 => h9) rfl dX3_readPart_21 ?_
      have ec_41 : (nI pa_10).toInt = _ := nI_toInt (by omega)
      exact my_retI hx hb hr hlocks hK hS (wl_k_X3_readPart cI cJ cK xp p1 xt t1 (nI pz) (nI pa_10) pn (nI tz) tf) hP hD (Or.inr (⟨pz, pa_10, pn, rfl, (by first | assumption | omega | trivial | decide +kernel), (by first | assumption | omega | trivial | decide +kernel), hR_pn, (by first | assumption | omega | trivial | decide +kernel), (by intro q; first | (exfalso; omega) | exact hno q.1.1 | exact pt_Xno (by assumption) (by omega) (by assumption) hno q.1 | (have h9 := q.2; have h8 := hpt.2.1; omega))⟩)) dX3_readPart_24
abbrev wl_k_X3_read (cI cJ cK : ClassId) (xp : Nat) (p1 : Nat) (xt : Nat) (t1 : Nat) (v0_ : Int32) (v1_ : Int32) (v2_ : Nat → Int32) (v3_ : Int32) (v4_ : Nat → Int32) : va_W := [(xp, .inr (3, [.ref p1, .int v0_, .int v1_])), (p1, .inl (cI, 64, .inl v2_)), (xt, .inr (5, [.ref t1, .int v3_])), (t1, .inl (cI, 100, .inl v4_))]
set_option maxHeartbeats 4000000 in
set_option maxRecDepth 100000 in
theorem k_X3_read (l : Launch) (D : va_G) (cI cJ cK : ClassId) (xp : Nat) (p1 : Nat) (xt : Nat) (t1 : Nat) (pz : Nat) (pa : Nat) (pn : Nat → Int32) (tz : Nat) (tf : Nat → Int32) (hz_pz : pz ≤ 64) (hz_pa : pa ≤ 100) (hR_pn : RB 0 255 pn) (hz_tz : tz ≤ 100) (hR_tf : RB 0 255 tf) : ctI l yX3_read wsX3_read ({ frames := 3, cells := 0, slots := 0, locals := 180 } : Room) D (tyIJ cI cJ cK) [.ref xp, .ref xt] (wl_k_X3_read cI cJ cK xp p1 xt t1 (nI pz) (nI pa) pn (nI tz) tf) (fun (r : Int32) (u : va_W) => (∃ (pz' : Nat) (pa' : Nat) (pn' : Nat → Int32), u = (wl_k_X3_read cI cJ cK xp p1 xt t1 (nI pz') (nI pa') pn' (nI tz) tf) ∧ r = (-1) ∧ pz' ≤ 64 ∧ pa' ≤ 100 ∧ RB 0 255 pn' ∧ colOk tf tz ∧ pz' = colN tf tz ∧ pn' = colF tf tz pn) ∨ (∃ (pz' : Nat) (pa' : Nat) (pn' : Nat → Int32), u = (wl_k_X3_read cI cJ cK xp p1 xt t1 (nI pz') (nI pa') pn' (nI tz) tf) ∧ pz' ≤ 64 ∧ pa' ≤ 100 ∧ RB 0 255 pn' ∧ 0 ≤ r.toInt ∧ ¬ colOk tf tz)) := by
  refine ctI.of (cc := cX3_read) (maxL := 4) (ret := (some .int)) (by decide) rfl (Nat.le_of_ble_eq_true rfl) ?_
  intro p e s m below meth c ls A hx hb hr hts hown hml hlocks hname hA hK hN hP hD hS hl
  have hl : lv_has ls 4 [(0, .ref xp), (1, .ref xt)] := hl
  have hown : s.vm.findClass RX3 = some m.cls := hown
  have hi3 : ∀ w ∈ u_ws RX3 TX3 3, w ∈ wsX3_read := by decide +kernel
  have hi5 : ∀ w ∈ u_ws RX5 TX5 2, w ∈ wsX3_read := by decide +kernel
  have fl15 := hts (.fieldLink RX3 15 "PlaneColumn$PartReader" "size" "I") (by decide +kernel)
  have fl19 := hts (.fieldLink RX3 19 "PlaneColumn$PartReader" "at" "I") (by decide +kernel)
  refine lv_aload_n hx hb dX3_read_0 rfl (lv_at hl 0 rfl) ?_
  refine lv_iconst (v := 0) hx hb dX3_read_1 (by decide +kernel) ?_
  refine va_put (ci := 3) (v := .int 0) (ty := (.int)) (C := RX3) (T := TX3) (N := 3) hx hb hts hi3 tyX3 tyX3_ok nmX3 hown hK hP hD hS 0 rfl rfl 1 (by decide) fl15 (fun _ h9 => h9) rfl (by decide +kernel) rfl rfl (Nat.le_of_ble_eq_true rfl) dX3_read_2 (fun H locs hP hD hS => ?_)
  have hP : va_P D vwCl (wl_k_X3_read cI cJ cK xp p1 xt t1 0 (nI pa) pn (nI tz) tf) H := hP
  have hD : va_D A (wl_k_X3_read cI cJ cK xp p1 xt t1 0 (nI pa) pn (nI tz) tf) := hD
  refine lv_aload_n hx hb dX3_read_5 rfl (lv_at hl 0 rfl) ?_
  refine lv_iconst (v := 0) hx hb dX3_read_6 (by decide +kernel) ?_
  refine va_put (ci := 3) (v := .int 0) (ty := (.int)) (C := RX3) (T := TX3) (N := 3) hx hb hts hi3 tyX3 tyX3_ok nmX3 hown hK hP hD hS 0 rfl rfl 2 (by decide) fl19 (fun _ h9 => h9) rfl (by decide +kernel) rfl rfl (Nat.le_of_ble_eq_true rfl) dX3_read_7 (fun H locs hP hD hS => ?_)
  have hP : va_P D vwCl (wl_k_X3_read cI cJ cK xp p1 xt t1 0 0 pn (nI tz) tf) H := hP
  have hD : va_D A (wl_k_X3_read cI cJ cK xp p1 xt t1 0 0 pn (nI tz) tf) := hD
  refine lv_aload_n hx hb dX3_read_10 rfl (lv_at hl 1 rfl) ?_
  refine va_getN (ci := 5) (v := .int (nI tz)) (C := RX5) (T := TX5) (N := 2) hx hb hts hi5 hown hK hP 2 rfl rfl 1 (by decide) (nw_f_RX3_22 hN) (fun _ h9 => h9) rfl dX3_read_11 ?_
  refine lv_if_ne (tgt := 19) hx hb dX3_read_14 (by decide) (fun c14 => ?_) (fun c14 => ?_)
  ·
    have d14 : ((tz : Nat) : Int) ≠ (0 : Int) := my_ne c14 (nI_toInt (by omega)) (by decide +kernel)
    refine lv_iconst (v := 0) hx hb dX3_read_19 (by decide +kernel) ?_
    refine lv_istore_n (lv' := [(2, .int 0), (0, .ref xp), (1, .ref xt)]) hx hb dX3_read_20 rfl hl (by decide) rfl (fun ls hl => ?_)
    have loop21 : ∀ (n9 : Nat) (k : Nat) (xp_size_21 : Nat) (xp_at_21 : Nat) (p1_21 : Nat → Int32), 100 - k < n9 → (k ≤ 100) → (2 * k ≤ xp_at_21) → (xp_at_21 ≤ tz) → (clI tf tz xp_at_21 xp_size_21 p1_21 pn) → (xp_size_21 ≤ 64) → (xp_at_21 ≤ 100) → (RB 0 255 p1_21) → ∀ (H : Heap) (locs : List Loc) (ls : Array Slot), va_P D vwCl (wl_k_X3_read cI cJ cK xp p1 xt t1 (nI xp_size_21) (nI xp_at_21) p1_21 (nI tz) tf) H → va_D A (wl_k_X3_read cI cJ cK xp p1 xt t1 (nI xp_size_21) (nI xp_at_21) p1_21 (nI tz) tf) → va_S A s.heap H locs → lv_has ls 4 [(2, .int (nI k)), (0, .ref xp), (1, .ref xt)] → W p l e ({ frames := 3, cells := 0, slots := 0, locals := 180 } : Room) s m [.ref xp, .ref xt].toArray below meth c H locs 0 0 (MQ below (va_Qi (fun (r : Int32) (u : va_W) => (∃ (pz' : Nat) (pa' : Nat) (pn' : Nat → Int32), u = (wl_k_X3_read cI cJ cK xp p1 xt t1 (nI pz') (nI pa') pn' (nI tz) tf) ∧ r = (-1) ∧ pz' ≤ 64 ∧ pa' ≤ 100 ∧ RB 0 255 pn' ∧ colOk tf tz ∧ pz' = colN tf tz ∧ pn' = colF tf tz pn) ∨ (∃ (pz' : Nat) (pa' : Nat) (pn' : Nat → Int32), u = (wl_k_X3_read cI cJ cK xp p1 xt t1 (nI pz') (nI pa') pn' (nI tz) tf) ∧ pz' ≤ 64 ∧ pa' ≤ 100 ∧ RB 0 255 pn' ∧ 0 ≤ r.toInt ∧ ¬ colOk tf tz)) (my_B D (tyIJ cI cJ cK) A) A) [.ref xp, .ref xt].toArray s 0 0 A) (F0 m 21 ls []) := by
      intro n9
      induction n9 with
      | zero =>
        intro k xp_size_21 xp_at_21 p1_21 hn9
        exact absurd hn9 (Nat.not_lt_zero _)
      | succ n9 ih21 =>
        intro k xp_size_21 xp_at_21 p1_21 hn9 hk_k hk2 hat hcl hz_xp_size_21 hz_xp_at_21 hR_p1_21 H locs ls hP hD hS hl
        refine lv_iload_n hx hb dX3_read_21 rfl (lv_at hl 0 rfl) ?_
        refine lv_bipush (v := 100) hx hb dX3_read_22 (by decide +kernel) ?_
        refine lv_icmp_ge (tgt := 87) hx hb dX3_read_24 (by decide) (fun c24 => ?_) (fun c24 => ?_)
        ·
          have d24 : ((k : Nat) : Int) ≥ (100 : Int) := my_ge c24 (nI_toInt (by omega)) (by decide +kernel)
          refine lv_aload_n hx hb dX3_read_87 rfl (lv_at hl 1 rfl) ?_
          refine va_get (ci := 3) (v := .int (nI xp_at_21)) (C := RX3) (T := TX3) (N := 3) hx hb hts hi3 hown hK hP 0 rfl rfl 2 (by decide) fl19 (fun _ h9 => h9) rfl dX3_read_88 ?_
          have ec_1 : (nI xp_at_21).toInt = _ := nI_toInt (by omega)
          exact my_retI hx hb hr hlocks hK hS (wl_k_X3_read cI cJ cK xp p1 xt t1 (nI xp_size_21) (nI xp_at_21) p1_21 (nI tz) tf) hP hD (Or.inr (⟨xp_size_21, xp_at_21, p1_21, rfl, (by first | assumption | omega | trivial | decide +kernel), (by first | assumption | omega | trivial | decide +kernel), hR_p1_21, (by first | assumption | omega | trivial | decide +kernel), (by first | exact (col_1 (f := tf) (n := tz) (by omega) pn).1.mpr hq.1 | exact (col_0 (f := tf) (n := tz) (by omega) pn).1 | (exfalso; omega) | exact fun q => clI_bad hcl (fun w => hpn ⟨w.1, w.2.1⟩) ((col_1 (f := tf) (n := tz) (by omega) pn).1.mp q) | (intro q; refine clI_bad hcl (fun w => ?_) ((col_1 (f := tf) (n := tz) (by omega) pn).1.mp q); rcases w.2.2 with h | h; (omega); (rw [← hpe] at h; have h8 := isS_iff.mp h; omega)))⟩)) dX3_read_91
        ·
          have d24 : ((k : Nat) : Int) < (100 : Int) := my_nge c24 (nI_toInt (by omega)) (by decide +kernel)
          refine lv_aload_n hx hb dX3_read_27 rfl (lv_at hl 1 rfl) ?_
          refine lv_aload_n hx hb dX3_read_28 rfl (lv_at hl 2 rfl) ?_
          refine my_goIS (wc := (wl_k_X3_readPart cI cJ cK xp p1 xt t1 (nI xp_size_21) (nI xp_at_21) p1_21 (nI tz) tf)) hP hD hS hA [0, 1, 2, 3] rfl [some 0, some 1, some 2, some 3] (by decide +kernel) (my_cV (As := [.ref xt]) (rest := []) (ci := 3) (wc := (wl_k_X3_readPart cI cJ cK xp p1 xt t1 (nI xp_size_21) (nI xp_at_21) p1_21 (nI tz) tf)) ⟨hx, hb, hml, hown, hts⟩ (cwV 1 hts gX3_read_X3_readPart rfl rfl rfl (by decide +kernel) ⟨Nat.le_of_ble_eq_true rfl, Nat.le_of_ble_eq_true rfl⟩) hN hK hP hD [0, 1, 2, 3] rfl (by decide) rfl 0 rfl rfl rfl rfl hl.1 rfl (Nat.le_of_ble_eq_true rfl) dX3_read_29 ⟨Nat.le_of_ble_eq_true rfl, Nat.le_of_ble_eq_true rfl⟩  ((k_X3_readPart l D cI cJ cK xp p1 xt t1 xp_size_21 xp_at_21 p1_21 tz tf (by first | assumption | omega | decide +kernel) (by first | assumption | omega | decide +kernel) hR_p1_21 (by first | assumption | omega | decide +kernel) hR_tf (by first | assumption | omega | decide +kernel)) _)) (fun r u H locs hp hPD hS => ?_)
          rcases hp with ⟨pz_2, pa_3, pn_4, rfl, rfl, hhz_pz_5, hhz_pa_6, hR_pn_4, hpo, hps, hpe, ht_7, hu_8, hpf⟩ | ⟨pz_9, pa_10, pn_11, rfl, hhz_pz_12, hhz_pa_13, hR_pn_11, ha_14, hpn⟩
          ·
            obtain ⟨hP, hD⟩ := hPD rfl
            have hP : va_P D vwCl (wl_k_X3_read cI cJ cK xp p1 xt t1 (nI pz_2) (nI pa_3) pn_4 (nI tz) tf) H := hP
            have hD : va_D A (wl_k_X3_read cI cJ cK xp p1 xt t1 (nI pz_2) (nI pa_3) pn_4 (nI tz) tf) := hD
            refine lv_istore_n (lv' := [(3, .int (-1)), (2, .int (nI k)), (0, .ref xp), (1, .ref xt)]) hx hb dX3_read_32 rfl hl (by decide) rfl (fun ls hl => ?_)
            refine lv_iload_n hx hb dX3_read_33 rfl (lv_at hl 0 rfl) ?_
            refine lv_iconst (v := (-1)) hx hb dX3_read_34 (by decide +kernel) ?_
            refine lv_icmp_eq (tgt := 40) hx hb dX3_read_35 (by decide) (fun c35 => ?_) (fun c35 => ?_)
            ·
              refine lv_aload_n hx hb dX3_read_40 rfl (lv_at hl 2 rfl) ?_
              refine va_get (ci := 3) (v := .int (nI pa_3)) (C := RX3) (T := TX3) (N := 3) hx hb hts hi3 hown hK hP 0 rfl rfl 2 (by decide) fl19 (fun _ h9 => h9) rfl dX3_read_41 ?_
              refine lv_aload_n hx hb dX3_read_44 rfl (lv_at hl 3 rfl) ?_
              refine va_getN (ci := 5) (v := .int (nI tz)) (C := RX5) (T := TX5) (N := 2) hx hb hts hi5 hown hK hP 2 rfl rfl 1 (by decide) (nw_f_RX3_22 hN) (fun _ h9 => h9) rfl dX3_read_45 ?_
              refine lv_icmp_lt (tgt := 53) hx hb dX3_read_48 (by decide) (fun c48 => ?_) (fun c48 => ?_)
              ·
                have d48 : ((pa_3 : Nat) : Int) < ((tz : Nat) : Int) := my_lt c48 (nI_toInt (by omega)) (nI_toInt (by omega))
                refine lv_aload_n hx hb dX3_read_53 rfl (lv_at hl 3 rfl) ?_
                refine lv_aload_n hx hb dX3_read_54 rfl (lv_at hl 2 rfl) ?_
                refine va_get (ci := 3) (v := .int (nI pa_3)) (C := RX3) (T := TX3) (N := 3) hx hb hts hi3 hown hK hP 0 rfl rfl 2 (by decide) fl19 (fun _ h9 => h9) rfl dX3_read_55 ?_
                refine my_gpI (my_pV (As := [.int (nI pa_3)]) (rest := []) (ci := 5) ⟨hx, hb, hml, hown, hts⟩ (cwV 1 hts gX3_read_X5_at rfl rfl rfl (by decide +kernel) ⟨Nat.le_of_ble_eq_true rfl, Nat.le_of_ble_eq_true rfl⟩) hN hK hP [2, 3] rfl 2 rfl rfl rfl rfl hl.1 rfl (Nat.le_of_ble_eq_true rfl) dX3_read_58 ⟨Nat.le_of_ble_eq_true rfl, Nat.le_of_ble_eq_true rfl⟩  (k_X5_at l D cI cJ cK xt t1 tz tf pa_3 (by first | assumption | omega | decide +kernel) hR_tf (by first | assumption | omega | decide +kernel))) (fun r hp => ?_)
                rcases hp with ⟨rfl, ha_15⟩ | ⟨rfl, ha_16⟩
                ·
                  refine lv_bipush (v := 44) hx hb dX3_read_61 (by decide +kernel) ?_
                  refine lv_icmp_eq (tgt := 71) hx hb dX3_read_63 (by decide) (fun c63 => ?_) (fun c63 => ?_)
                  ·
                    have d63 : (tf pa_3).toInt = (44 : Int) := my_eq c63 rfl (by decide +kernel)
                    refine lv_aload_n hx hb dX3_read_71 rfl (lv_at hl 2 rfl) ?_
                    refine lv_dup hx hb dX3_read_72 rfl ?_
                    refine va_get (ci := 3) (v := .int (nI pa_3)) (C := RX3) (T := TX3) (N := 3) hx hb hts hi3 hown hK hP 0 rfl rfl 2 (by decide) fl19 (fun _ h9 => h9) rfl dX3_read_73 ?_
                    refine lv_iconst (v := 1) hx hb dX3_read_76 (by decide +kernel) ?_
                    refine lv_iadd hx hb dX3_read_77 ?_
                    refine my_eqi (y := nI (pa_3 + 1)) (my_addN pa_3 1) ?_
                    refine va_put (ci := 3) (v := .int (nI (pa_3 + 1))) (ty := (.int)) (C := RX3) (T := TX3) (N := 3) hx hb hts hi3 tyX3 tyX3_ok nmX3 hown hK hP hD hS 0 rfl rfl 2 (by decide) fl19 (fun _ h9 => h9) rfl (by decide +kernel) rfl rfl (Nat.le_of_ble_eq_true rfl) dX3_read_78 (fun H locs hP hD hS => ?_)
                    have hP : va_P D vwCl (wl_k_X3_read cI cJ cK xp p1 xt t1 (nI pz_2) (nI (pa_3 + 1)) pn_4 (nI tz) tf) H := hP
                    have hD : va_D A (wl_k_X3_read cI cJ cK xp p1 xt t1 (nI pz_2) (nI (pa_3 + 1)) pn_4 (nI tz) tf) := hD
                    refine lv_iinc (v := nI (k + 1)) (lv' := [(2, .int (nI (k + 1))), (3, .int (-1)), (0, .ref xp), (1, .ref xt)]) hx hb dX3_read_81 hl (k := 1) rfl (my_incN k 1 (by decide +kernel)) (by decide) rfl (fun ls hl => ?_)
                    refine lv_goto (tgt := 21) hx hb dX3_read_84 (by decide) ?_
                    exact ih21  (k + 1) pz_2 (pa_3 + 1) pn_4 (by omega) (by first | assumption | omega | decide +kernel) (by first | assumption | omega | decide +kernel) (by first | assumption | omega | decide +kernel) (by have h9 := clI_step hcl hpo (by omega) (by rw [← hpe]; exact isS_iff.mpr ⟨by omega, by assumption⟩); rw [← hpf, ← hps, ← hpe] at h9; exact h9) (by first | assumption | omega | decide +kernel) (by first | assumption | omega | decide +kernel) hR_pn_4 _ _ ls hP hD hS (lv_sub hl [0, 2, 3] rfl)
                  ·
                    have d63 : (tf pa_3).toInt ≠ (44 : Int) := my_ne c63 rfl (by decide +kernel)
                    refine lv_aload_n hx hb dX3_read_66 rfl (lv_at hl 2 rfl) ?_
                    refine va_get (ci := 3) (v := .int (nI pa_3)) (C := RX3) (T := TX3) (N := 3) hx hb hts hi3 hown hK hP 0 rfl rfl 2 (by decide) fl19 (fun _ h9 => h9) rfl dX3_read_67 ?_
                    have ec_17 : (nI pa_3).toInt = _ := nI_toInt (by omega)
                    exact my_retI hx hb hr hlocks hK hS (wl_k_X3_read cI cJ cK xp p1 xt t1 (nI pz_2) (nI pa_3) pn_4 (nI tz) tf) hP hD (Or.inr (⟨pz_2, pa_3, pn_4, rfl, (by first | assumption | omega | trivial | decide +kernel), (by first | assumption | omega | trivial | decide +kernel), hR_pn_4, (by first | assumption | omega | trivial | decide +kernel), (by first | exact (col_1 (f := tf) (n := tz) (by omega) pn).1.mpr hq.1 | exact (col_0 (f := tf) (n := tz) (by omega) pn).1 | (exfalso; omega) | exact fun q => clI_bad hcl (fun w => hpn ⟨w.1, w.2.1⟩) ((col_1 (f := tf) (n := tz) (by omega) pn).1.mp q) | (intro q; refine clI_bad hcl (fun w => ?_) ((col_1 (f := tf) (n := tz) (by omega) pn).1.mp q); rcases w.2.2 with h | h; (omega); (rw [← hpe] at h; have h8 := isS_iff.mp h; omega)))⟩)) dX3_read_70
                ·
                  refine lv_bipush (v := 44) hx hb dX3_read_61 (by decide +kernel) ?_
                  refine lv_icmp_eq (tgt := 71) hx hb dX3_read_63 (by decide) (fun c63 => ?_) (fun c63 => ?_)
                  ·
                    exact absurd c63 (by decide +kernel)
                  ·
                    refine lv_aload_n hx hb dX3_read_66 rfl (lv_at hl 2 rfl) ?_
                    refine va_get (ci := 3) (v := .int (nI pa_3)) (C := RX3) (T := TX3) (N := 3) hx hb hts hi3 hown hK hP 0 rfl rfl 2 (by decide) fl19 (fun _ h9 => h9) rfl dX3_read_67 ?_
                    have ec_18 : (nI pa_3).toInt = _ := nI_toInt (by omega)
                    exact my_retI hx hb hr hlocks hK hS (wl_k_X3_read cI cJ cK xp p1 xt t1 (nI pz_2) (nI pa_3) pn_4 (nI tz) tf) hP hD (Or.inr (⟨pz_2, pa_3, pn_4, rfl, (by first | assumption | omega | trivial | decide +kernel), (by first | assumption | omega | trivial | decide +kernel), hR_pn_4, (by first | assumption | omega | trivial | decide +kernel), (by first | exact (col_1 (f := tf) (n := tz) (by omega) pn).1.mpr hq.1 | exact (col_0 (f := tf) (n := tz) (by omega) pn).1 | (exfalso; omega) | exact fun q => clI_bad hcl (fun w => hpn ⟨w.1, w.2.1⟩) ((col_1 (f := tf) (n := tz) (by omega) pn).1.mp q) | (intro q; refine clI_bad hcl (fun w => ?_) ((col_1 (f := tf) (n := tz) (by omega) pn).1.mp q); rcases w.2.2 with h | h; (omega); (rw [← hpe] at h; have h8 := isS_iff.mp h; omega)))⟩)) dX3_read_70
              ·
                have d48 : ((pa_3 : Nat) : Int) ≥ ((tz : Nat) : Int) := my_nlt c48 (nI_toInt (by omega)) (nI_toInt (by omega))
                have hq := clI_end hcl hpo (by omega) (by omega)
                refine lv_iconst (v := (-1)) hx hb dX3_read_51 (by decide +kernel) ?_
                have ec_19 : ((-1) : Int32).toInt = -1 := by decide +kernel
                exact my_retI hx hb hr hlocks hK hS (wl_k_X3_read cI cJ cK xp p1 xt t1 (nI pz_2) (nI pa_3) pn_4 (nI tz) tf) hP hD (Or.inl ⟨pz_2, pa_3, pn_4, rfl, rfl, (by first | assumption | omega | trivial | decide +kernel), (by first | assumption | omega | trivial | decide +kernel), hR_pn_4, (by first | exact (col_1 (f := tf) (n := tz) (by omega) pn).1.mpr hq.1 | exact (col_0 (f := tf) (n := tz) (by omega) pn).1 | (exfalso; omega) | exact fun q => clI_bad hcl (fun w => hpn ⟨w.1, w.2.1⟩) ((col_1 (f := tf) (n := tz) (by omega) pn).1.mp q) | (intro q; refine clI_bad hcl (fun w => ?_) ((col_1 (f := tf) (n := tz) (by omega) pn).1.mp q); rcases w.2.2 with h | h; (omega); (rw [← hpe] at h; have h8 := isS_iff.mp h; omega))), (by first | (have h9 := hq.2.1; have h8 := (col_1 (f := tf) (n := tz) (by omega) pn).2.1; omega) | exact (col_0 (f := tf) (n := tz) (by omega) pn).2.1.symm), (by first | exact (hpf.trans hq.2.2).trans (col_1 (f := tf) (n := tz) (by omega) pn).2.2.symm | exact (col_0 (f := tf) (n := tz) (by omega) pn).2.2.symm)⟩) dX3_read_52
            ·
              exact absurd c35 (by decide +kernel)
          ·
            obtain ⟨r_20, rfl⟩ : ∃ z, z = r := ⟨_, rfl⟩
            obtain ⟨hP, hD⟩ := hPD rfl
            have hP : va_P D vwCl (wl_k_X3_read cI cJ cK xp p1 xt t1 (nI pz_9) (nI pa_10) pn_11 (nI tz) tf) H := hP
            have hD : va_D A (wl_k_X3_read cI cJ cK xp p1 xt t1 (nI pz_9) (nI pa_10) pn_11 (nI tz) tf) := hD
            refine lv_istore_n (lv' := [(3, .int r_20), (2, .int (nI k)), (0, .ref xp), (1, .ref xt)]) hx hb dX3_read_32 rfl hl (by decide) rfl (fun ls hl => ?_)
            refine lv_iload_n hx hb dX3_read_33 rfl (lv_at hl 0 rfl) ?_
            refine lv_iconst (v := (-1)) hx hb dX3_read_34 (by decide +kernel) ?_
            refine lv_icmp_eq (tgt := 40) hx hb dX3_read_35 (by decide) (fun c35 => ?_) (fun c35 => ?_)
            ·
              have d35 : r_20.toInt = (-1 : Int) := my_eq c35 rfl (by decide +kernel)
              exact absurd d35 (by omega)
            ·
              have d35 : r_20.toInt ≠ (-1 : Int) := my_ne c35 rfl (by decide +kernel)
              refine lv_iload_n hx hb dX3_read_38 rfl (lv_at hl 0 rfl) ?_
              exact my_retI hx hb hr hlocks hK hS (wl_k_X3_read cI cJ cK xp p1 xt t1 (nI pz_9) (nI pa_10) pn_11 (nI tz) tf) hP hD (Or.inr (⟨pz_9, pa_10, pn_11, rfl, (by first | assumption | omega | trivial | decide +kernel), (by first | assumption | omega | trivial | decide +kernel), hR_pn_11, (by first | assumption | omega | trivial | decide +kernel), (by first | exact (col_1 (f := tf) (n := tz) (by omega) pn).1.mpr hq.1 | exact (col_0 (f := tf) (n := tz) (by omega) pn).1 | (exfalso; omega) | exact fun q => clI_bad hcl (fun w => hpn ⟨w.1, w.2.1⟩) ((col_1 (f := tf) (n := tz) (by omega) pn).1.mp q) | (intro q; refine clI_bad hcl (fun w => ?_) ((col_1 (f := tf) (n := tz) (by omega) pn).1.mp q); rcases w.2.2 with h | h; (omega); (rw [← hpe] at h; have h8 := isS_iff.mp h; omega)))⟩)) dX3_read_39
    exact loop21 ((100 - 0) + 1) 0 0 0 pn (Nat.lt_succ_self _) (by first | assumption | omega | decide +kernel) (by first | assumption | omega | decide +kernel) (by first | assumption | omega | decide +kernel) (clI_0 tf tz pn) (by first | assumption | omega | decide +kernel) (by first | assumption | omega | decide +kernel) hR_pn _ _ ls hP hD hS (lv_sub hl [0, 1, 2] rfl)
  ·
    have d14 : ((tz : Nat) : Int) = (0 : Int) := my_eq c14 (nI_toInt (by omega)) (by decide +kernel)
    refine lv_iconst (v := (-1)) hx hb dX3_read_17 (by decide +kernel) ?_
    have ec_21 : ((-1) : Int32).toInt = -1 := by decide +kernel
    exact my_retI hx hb hr hlocks hK hS (wl_k_X3_read cI cJ cK xp p1 xt t1 0 0 pn (nI tz) tf) hP hD (Or.inl ⟨0, 0, pn, rfl, rfl, (by first | assumption | omega | trivial | decide +kernel), (by first | assumption | omega | trivial | decide +kernel), hR_pn, (by first | exact (col_1 (f := tf) (n := tz) (by omega) pn).1.mpr hq.1 | exact (col_0 (f := tf) (n := tz) (by omega) pn).1 | (exfalso; omega) | exact fun q => clI_bad hcl (fun w => hpn ⟨w.1, w.2.1⟩) ((col_1 (f := tf) (n := tz) (by omega) pn).1.mp q) | (intro q; refine clI_bad hcl (fun w => ?_) ((col_1 (f := tf) (n := tz) (by omega) pn).1.mp q); rcases w.2.2 with h | h; (omega); (rw [← hpe] at h; have h8 := isS_iff.mp h; omega))), (by first | (have h9 := hq.2.1; have h8 := (col_1 (f := tf) (n := tz) (by omega) pn).2.1; omega) | exact (col_0 (f := tf) (n := tz) (by omega) pn).2.1.symm), (by first | exact (hpf.trans hq.2.2).trans (col_1 (f := tf) (n := tz) (by omega) pn).2.2.symm | exact (col_0 (f := tf) (n := tz) (by omega) pn).2.2.symm)⟩) dX3_read_18
