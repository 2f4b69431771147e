set_option maxHeartbeats 4000000 in
set_option maxRecDepth 100000 in
theorem k_X3_isDigit (l : Launch) (D : va_G) (cI cJ cK : ClassId) (v9 : Int32) : cpI l yX3_isDigit wsX3_isDigit ({ frames := 0, cells := 0, slots := 0, locals := 0 } : Room) D (tyIJ cI cJ cK) [.int v9] [] (fun (r : Int32) => (r = 1 ∧ 48 ≤ v9.toInt ∧ v9.toInt ≤ 57) ∨ (r = 0 ∧ (v9.toInt < 48 ∨ 57 < v9.toInt))) := by
  refine cpI.of (cc := cX3_isDigit) (maxL := 1) (ret := (some .boolean)) (by decide) rfl (Nat.le_of_ble_eq_true rfl) ?_
  intro p e s m below meth c ls hx hb hr hts hown hml hlocks hname hK hN hP hl
  have hl : lv_has ls 1 [(0, .int v9)] := hl
  have hown : s.vm.findClass RX3 = some m.cls := hown
  refine lv_iload_n hx hb dX3_isDigit_0 rfl (lv_at hl 0 rfl) ?_
  refine lv_bipush (v := 48) hx hb dX3_isDigit_1 (by decide +kernel) ?_
  refine lv_icmp_lt (tgt := 16) hx hb dX3_isDigit_3 (by decide) (fun c3 => ?_) (fun c3 => ?_)
  ·
    have d3 : v9.toInt < (48 : Int) := my_lt c3 rfl (by decide +kernel)
    refine lv_iconst (v := 0) hx hb dX3_isDigit_16 (by decide +kernel) ?_
    exact my_rpZ hx hb hr hlocks (by decide +kernel) (Or.inr (⟨rfl, (by first | omega | assumption | trivial | decide +kernel)⟩)) dX3_isDigit_17
  ·
    have d3 : v9.toInt ≥ (48 : Int) := my_nlt c3 rfl (by decide +kernel)
    refine lv_iload_n hx hb dX3_isDigit_6 rfl (lv_at hl 0 rfl) ?_
    refine lv_bipush (v := 57) hx hb dX3_isDigit_7 (by decide +kernel) ?_
    refine lv_icmp_gt (tgt := 16) hx hb dX3_isDigit_9 (by decide) (fun c9 => ?_) (fun c9 => ?_)
    ·
      have d9 : v9.toInt > (57 : Int) := my_gt c9 rfl (by decide +kernel)
      refine lv_iconst (v := 0) hx hb dX3_isDigit_16 (by decide +kernel) ?_
      exact my_rpZ hx hb hr hlocks (by decide +kernel) (Or.inr (⟨rfl, (by first | omega | assumption | trivial | decide +kernel)⟩)) dX3_isDigit_17
    ·
      have d9 : v9.toInt ≤ (57 : Int) := my_ngt c9 rfl (by decide +kernel)
      refine lv_iconst (v := 1) hx hb dX3_isDigit_12 (by decide +kernel) ?_
      refine lv_goto (tgt := 17) hx hb dX3_isDigit_13 (by decide) ?_
      exact my_rpZ hx hb hr hlocks (by decide +kernel) (Or.inl ⟨rfl, (by first | omega | assumption | trivial | decide +kernel), (by first | omega | assumption | trivial | decide +kernel)⟩) dX3_isDigit_17
set_option maxHeartbeats 4000000 in
set_option maxRecDepth 100000 in
theorem k_X4_isBit (l : Launch) (D : va_G) (cI cJ cK : ClassId) (v9 : Int32) : cpI l yX4_isBit wsX4_isBit ({ frames := 0, cells := 0, slots := 0, locals := 0 } : Room) D (tyIJ cI cJ cK) [.int v9] [] (fun (r : Int32) => (r = 1 ∧ 48 ≤ v9.toInt ∧ v9.toInt ≤ 49) ∨ (r = 0)) := by
  refine cpI.of (cc := cX4_isBit) (maxL := 1) (ret := (some .boolean)) (by decide) rfl (Nat.le_of_ble_eq_true rfl) ?_
  intro p e s m below meth c ls hx hb hr hts hown hml hlocks hname hK hN hP hl
  have hl : lv_has ls 1 [(0, .int v9)] := hl
  have hown : s.vm.findClass RX4 = some m.cls := hown
  refine lv_iload_n hx hb dX4_isBit_0 rfl (lv_at hl 0 rfl) ?_
  refine lv_bipush (v := 48) hx hb dX4_isBit_1 (by decide +kernel) ?_
  refine lv_icmp_eq (tgt := 12) hx hb dX4_isBit_3 (by decide) (fun c3 => ?_) (fun c3 => ?_)
  ·
    have d3 : v9.toInt = (48 : Int) := my_eq c3 rfl (by decide +kernel)
    refine lv_iconst (v := 1) hx hb dX4_isBit_12 (by decide +kernel) ?_
    refine lv_goto (tgt := 17) hx hb dX4_isBit_13 (by decide) ?_
    exact my_rpZ hx hb hr hlocks (by decide +kernel) (Or.inl ⟨rfl, (by first | omega | assumption | trivial | decide +kernel), (by first | omega | assumption | trivial | decide +kernel)⟩) dX4_isBit_17
  ·
    have d3 : v9.toInt ≠ (48 : Int) := my_ne c3 rfl (by decide +kernel)
    refine lv_iload_n hx hb dX4_isBit_6 rfl (lv_at hl 0 rfl) ?_
    refine lv_bipush (v := 49) hx hb dX4_isBit_7 (by decide +kernel) ?_
    refine lv_icmp_ne (tgt := 16) hx hb dX4_isBit_9 (by decide) (fun c9 => ?_) (fun c9 => ?_)
    ·
      have d9 : v9.toInt ≠ (49 : Int) := my_ne c9 rfl (by decide +kernel)
      refine lv_iconst (v := 0) hx hb dX4_isBit_16 (by decide +kernel) ?_
      exact my_rpZ hx hb hr hlocks (by decide +kernel) (Or.inr (rfl)) dX4_isBit_17
    ·
      have d9 : v9.toInt = (49 : Int) := my_eq c9 rfl (by decide +kernel)
      refine lv_iconst (v := 1) hx hb dX4_isBit_12 (by decide +kernel) ?_
      refine lv_goto (tgt := 17) hx hb dX4_isBit_13 (by decide) ?_
      exact my_rpZ hx hb hr hlocks (by decide +kernel) (Or.inl ⟨rfl, (by first | omega | assumption | trivial | decide +kernel), (by first | omega | assumption | trivial | decide +kernel)⟩) dX4_isBit_17
set_option maxHeartbeats 4000000 in
set_option maxRecDepth 100000 in
theorem k_X3_readDigits (l : Launch) (D : va_G) (cI cJ cK : ClassId) (xp : Nat) (p1 : Nat) (xt : Nat) (t1 : Nat) (pz : Nat) (pa : Int32) (tz : Nat) (tf : Nat → Int32) (dg : Int32) (A_dg : Int) (hA_dg : dg.toInt = A_dg) (a9 : Int32) (A_a9 : Int) (hA_a9 : a9.toInt = A_a9) (b9 : Int32) (A_b9 : Int) (hA_b9 : b9.toInt = A_b9) (hz_pz : pz ≤ 64) (hz_tz : tz ≤ 100) (hd : A_dg ≤ 3) (hc : 0 ≤ A_a9) (hb9 : A_b9 ≤ 255) : ctI l yX3_readDigits wsX3_readDigits ({ frames := 1, cells := 0, slots := 0, locals := 60 } : Room) D (tyIJ cI cJ cK) [.ref xp, .ref xt, .int dg, .int a9, .int b9] [(xp, .inr (3, [.ref p1, .int (nI pz), .int pa])), (xt, .inr (5, [.ref t1, .int (nI tz)])), (t1, .inl (cI, 100, .inl tf))] (fun (r : Int32) (u : va_W) => ∃ (pz' : Nat) (pa' : Int32), u = [(xp, .inr (3, [.ref p1, .int (nI pz'), .int pa'])), (xt, .inr (5, [.ref t1, .int (nI tz)])), (t1, .inl (cI, 100, .inl tf))] ∧ pz' ≤ 64 ∧ pz' = pz ∧ -1 ≤ r.toInt ∧ (r.toInt ≤ A_b9 ∨ r.toInt = -1) ∧ (A_a9 ≤ r.toInt ∨ r.toInt = -1)) := by
  refine ctI.of (cc := cX3_readDigits) (maxL := 7) (ret := (some .int)) (by decide) rfl (Nat.le_of_ble_eq_true rfl) ?_
  intro p e s m below meth c ls A hx hb hr hts hown hml hlocks hname hA hK hN hP hD hS hl
  have hl : lv_has ls 7 [(0, .ref xp), (1, .ref xt), (2, .int dg), (3, .int a9), (4, .int b9)] := hl
  have hown : s.vm.findClass RX3 = some m.cls := hown
  have hi3 : ∀ w ∈ u_ws RX3 TX3 3, w ∈ wsX3_readDigits := by decide +kernel
  have fl19 := hts (.fieldLink RX3 19 "PlaneColumn$PartReader" "at" "I") (by decide +kernel)
  refine lv_iconst (v := 0) hx hb dX3_readDigits_0 (by decide +kernel) ?_
  refine lv_istore (lv' := [(5, .int 0), (0, .ref xp), (1, .ref xt), (2, .int dg), (3, .int a9), (4, .int b9)]) hx hb dX3_readDigits_1 hl (by decide) rfl (fun ls hl => ?_)
  refine lv_iconst (v := 0) hx hb dX3_readDigits_3 (by decide +kernel) ?_
  refine lv_istore (lv' := [(6, .int 0), (5, .int 0), (0, .ref xp), (1, .ref xt), (2, .int dg), (3, .int a9), (4, .int b9)]) hx hb dX3_readDigits_4 hl (by decide) rfl (fun ls hl => ?_)
  have loop6 : ∀ (n9 : Nat) (k : Nat) (y5_6 : Int32) (xp_at_6 : Int32), 3 - k < n9 → (k ≤ 3) → ∀ (H : Heap) (locs : List Loc) (ls : Array Slot), va_P D vwCl [(xp, .inr (3, [.ref p1, .int (nI pz), .int xp_at_6])), (xt, .inr (5, [.ref t1, .int (nI tz)])), (t1, .inl (cI, 100, .inl tf))] H → va_D A [(xp, .inr (3, [.ref p1, .int (nI pz), .int xp_at_6])), (xt, .inr (5, [.ref t1, .int (nI tz)])), (t1, .inl (cI, 100, .inl tf))] → va_S A s.heap H locs → lv_has ls 7 [(6, .int (nI k)), (5, .int y5_6), (0, .ref xp), (1, .ref xt), (2, .int dg), (3, .int a9), (4, .int b9)] → W p l e ({ frames := 1, cells := 0, slots := 0, locals := 60 } : Room) s m [.ref xp, .ref xt, .int dg, .int a9, .int b9].toArray below meth c H locs 0 0 (MQ below (va_Qi (fun (r : Int32) (u : va_W) => ∃ (pz' : Nat) (pa' : Int32), u = [(xp, .inr (3, [.ref p1, .int (nI pz'), .int pa'])), (xt, .inr (5, [.ref t1, .int (nI tz)])), (t1, .inl (cI, 100, .inl tf))] ∧ pz' ≤ 64 ∧ pz' = pz ∧ -1 ≤ r.toInt ∧ (r.toInt ≤ A_b9 ∨ r.toInt = -1) ∧ (A_a9 ≤ r.toInt ∨ r.toInt = -1)) (my_B D (tyIJ cI cJ cK) A) A) [.ref xp, .ref xt, .int dg, .int a9, .int b9].toArray s 0 0 A) (F0 m 6 ls []) := by
    intro n9
    induction n9 with
    | zero =>
      intro k y5_6 xp_at_6 hn9
      exact absurd hn9 (Nat.not_lt_zero _)
    | succ n9 ih6 =>
      intro k y5_6 xp_at_6 hn9 hk_k H locs ls hP hD hS hl
      refine lv_iload hx hb dX3_readDigits_6 (lv_at hl 0 rfl) ?_
      refine lv_iload_n hx hb dX3_readDigits_8 rfl (lv_at hl 4 rfl) ?_
      refine lv_icmp_ge (tgt := 61) hx hb dX3_readDigits_9 (by decide) (fun c9 => ?_) (fun c9 => ?_)
      ·
        have d9 : ((k : Nat) : Int) ≥ dg.toInt := my_ge c9 (nI_toInt (by omega)) rfl
        refine lv_iload hx hb dX3_readDigits_61 (lv_at hl 0 rfl) ?_
        refine lv_if_ne (tgt := 68) hx hb dX3_readDigits_63 (by decide) (fun c63 => ?_) (fun c63 => ?_)
        ·
          have d63 : ((k : Nat) : Int) ≠ (0 : Int) := my_ne c63 (nI_toInt (by omega)) (by decide +kernel)
          refine lv_iload hx hb dX3_readDigits_68 (lv_at hl 1 rfl) ?_
          refine lv_iload_n hx hb dX3_readDigits_70 rfl (lv_at hl 5 rfl) ?_
          refine lv_icmp_lt (tgt := 81) hx hb dX3_readDigits_71 (by decide) (fun c71 => ?_) (fun c71 => ?_)
          ·
            have d71 : y5_6.toInt < a9.toInt := my_lt c71 rfl rfl
            refine lv_aload_n hx hb dX3_readDigits_81 rfl (lv_at hl 2 rfl) ?_
            refine lv_dup hx hb dX3_readDigits_82 rfl ?_
            refine va_get (ci := 3) (v := .int xp_at_6) (C := RX3) (T := TX3) (N := 3) hx hb hts hi3 hown hK hP 0 rfl rfl 2 (by decide) fl19 (fun _ h9 => h9) rfl dX3_readDigits_83 ?_
            refine lv_iconst (v := 1) hx hb dX3_readDigits_86 (by decide +kernel) ?_
            refine lv_isub hx hb dX3_readDigits_87 ?_
            refine lv_topi (fun z_1 ez_1 => ?_)
            try have tz_1 : z_1.toInt = xp_at_6.toInt - (1 : Int) := by rw [ez_1]; exact my_subI rfl (by decide +kernel) (by omega) (by omega)
            refine va_put (ci := 3) (v := .int z_1) (ty := (.int)) (C := RX3) (T := TX3) (N := 3) hx hb hts hi3 tyX3 tyX3_ok nmX3 hown hK hP hD hS 0 rfl rfl 2 (by decide) fl19 (fun _ h9 => h9) rfl (by decide +kernel) rfl rfl (Nat.le_of_ble_eq_true rfl) dX3_readDigits_88 (fun H locs hP hD hS => ?_)
            have hP : va_P D vwCl [(xp, .inr (3, [.ref p1, .int (nI pz), .int z_1])), (xt, .inr (5, [.ref t1, .int (nI tz)])), (t1, .inl (cI, 100, .inl tf))] H := hP
            have hD : va_D A [(xp, .inr (3, [.ref p1, .int (nI pz), .int z_1])), (xt, .inr (5, [.ref t1, .int (nI tz)])), (t1, .inl (cI, 100, .inl tf))] := hD
            refine lv_iconst (v := (-1)) hx hb dX3_readDigits_91 (by decide +kernel) ?_
            have ec_2 : ((-1) : Int32).toInt = -1 := by decide +kernel
            exact my_retI hx hb hr hlocks hK hS [(xp, .inr (3, [.ref p1, .int (nI pz), .int z_1])), (xt, .inr (5, [.ref t1, .int (nI tz)])), (t1, .inl (cI, 100, .inl tf))] (hP.sub [0, 1, 2] rfl) (hD.sub [0, 1, 2] (by decide) rfl) (⟨pz, z_1, rfl, (by first | omega | assumption | trivial | decide +kernel), (by first | omega | assumption | trivial | decide +kernel), (by first | omega | assumption | trivial | decide +kernel), (by first | omega | assumption | trivial | decide +kernel), (by first | omega | assumption | trivial | decide +kernel)⟩) dX3_readDigits_92
          ·
            have d71 : y5_6.toInt ≥ a9.toInt := my_nlt c71 rfl rfl
            refine lv_iload hx hb dX3_readDigits_74 (lv_at hl 1 rfl) ?_
            refine lv_iload hx hb dX3_readDigits_76 (lv_at hl 6 rfl) ?_
            refine lv_icmp_le (tgt := 93) hx hb dX3_readDigits_78 (by decide) (fun c78 => ?_) (fun c78 => ?_)
            ·
              have d78 : y5_6.toInt ≤ b9.toInt := my_le c78 rfl rfl
              refine lv_aload_n hx hb dX3_readDigits_93 rfl (lv_at hl 3 rfl) ?_
              refine lv_aload_n hx hb dX3_readDigits_94 rfl (lv_at hl 2 rfl) ?_
              refine va_get (ci := 3) (v := .int xp_at_6) (C := RX3) (T := TX3) (N := 3) hx hb hts hi3 hown hK hP 0 rfl rfl 2 (by decide) fl19 (fun _ h9 => h9) rfl dX3_readDigits_95 ?_
              refine my_gpI (my_pV (As := [.int xp_at_6]) (rest := []) (ci := 5) ⟨hx, hb, hml, hown, hts⟩ (cwV 1 hts gX3_readDigits_X5_at rfl rfl rfl (by decide +kernel) ⟨Nat.le_of_ble_eq_true rfl, Nat.le_of_ble_eq_true rfl⟩) hN hK hP [1, 2] rfl 1 rfl rfl rfl rfl hl.1 rfl (Nat.le_of_ble_eq_true rfl) dX3_readDigits_98 ⟨Nat.le_of_ble_eq_true rfl, Nat.le_of_ble_eq_true rfl⟩  (k_X5_at l D cI cJ cK xt t1 tz tf xp_at_6 (by first | omega | decide +kernel | assumption))) (fun r hp => ?_)
              obtain _ := hp
              obtain ⟨r_3, rfl⟩ : ∃ z, z = r := ⟨_, rfl⟩
              refine my_gpI (my_pS (As := [.int r_3]) (rest := []) ⟨hx, hb, hml, hown, hts⟩ (va_cwS 1 hts gX3_readDigits_X3_isDigit rfl rfl rfl (by decide +kernel) ⟨Nat.le_of_ble_eq_true rfl, Nat.le_of_ble_eq_true rfl⟩) hN hK hP [] rfl rfl hl.1 rfl (Nat.le_of_ble_eq_true rfl) dX3_readDigits_101 ⟨Nat.le_of_ble_eq_true rfl, Nat.le_of_ble_eq_true rfl⟩  (k_X3_isDigit l D cI cJ cK r_3)) (fun r hp => ?_)
              rcases hp with ⟨rfl, ha_4, hb_5⟩ | ⟨rfl, ho_6⟩
              ·
                refine lv_if_eq (tgt := 111) hx hb dX3_readDigits_104 (by decide) (fun c104 => ?_) (fun c104 => ?_)
                ·
                  exact absurd c104 (by decide +kernel)
                ·
                  refine lv_iconst (v := (-1)) hx hb dX3_readDigits_107 (by decide +kernel) ?_
                  refine lv_goto (tgt := 113) hx hb dX3_readDigits_108 (by decide) ?_
                  have ec_7 : ((-1) : Int32).toInt = -1 := by decide +kernel
                  exact my_retI hx hb hr hlocks hK hS [(xp, .inr (3, [.ref p1, .int (nI pz), .int xp_at_6])), (xt, .inr (5, [.ref t1, .int (nI tz)])), (t1, .inl (cI, 100, .inl tf))] (hP.sub [0, 1, 2] rfl) (hD.sub [0, 1, 2] (by decide) rfl) (⟨pz, xp_at_6, rfl, (by first | omega | assumption | trivial | decide +kernel), (by first | omega | assumption | trivial | decide +kernel), (by first | omega | assumption | trivial | decide +kernel), (by first | omega | assumption | trivial | decide +kernel), (by first | omega | assumption | trivial | decide +kernel)⟩) dX3_readDigits_113
              ·
                refine lv_if_eq (tgt := 111) hx hb dX3_readDigits_104 (by decide) (fun c104 => ?_) (fun c104 => ?_)
                ·
                  refine lv_iload hx hb dX3_readDigits_111 (lv_at hl 1 rfl) ?_
                  exact my_retI hx hb hr hlocks hK hS [(xp, .inr (3, [.ref p1, .int (nI pz), .int xp_at_6])), (xt, .inr (5, [.ref t1, .int (nI tz)])), (t1, .inl (cI, 100, .inl tf))] (hP.sub [0, 1, 2] rfl) (hD.sub [0, 1, 2] (by decide) rfl) (⟨pz, xp_at_6, rfl, (by first | omega | assumption | trivial | decide +kernel), (by first | omega | assumption | trivial | decide +kernel), (by first | omega | assumption | trivial | decide +kernel), (by first | omega | assumption | trivial | decide +kernel), (by first | omega | assumption | trivial | decide +kernel)⟩) dX3_readDigits_113
                ·
                  exact absurd c104 (by decide +kernel)
            ·
              have d78 : y5_6.toInt > b9.toInt := my_nle c78 rfl rfl
              refine lv_aload_n hx hb dX3_readDigits_81 rfl (lv_at hl 2 rfl) ?_
              refine lv_dup hx hb dX3_readDigits_82 rfl ?_
              refine va_get (ci := 3) (v := .int xp_at_6) (C := RX3) (T := TX3) (N := 3) hx hb hts hi3 hown hK hP 0 rfl rfl 2 (by decide) fl19 (fun _ h9 => h9) rfl dX3_readDigits_83 ?_
              refine lv_iconst (v := 1) hx hb dX3_readDigits_86 (by decide +kernel) ?_
              refine lv_isub hx hb dX3_readDigits_87 ?_
              refine lv_topi (fun z_8 ez_8 => ?_)
              try have tz_8 : z_8.toInt = xp_at_6.toInt - (1 : Int) := by rw [ez_8]; exact my_subI rfl (by decide +kernel) (by omega) (by omega)
              refine va_put (ci := 3) (v := .int z_8) (ty := (.int)) (C := RX3) (T := TX3) (N := 3) hx hb hts hi3 tyX3 tyX3_ok nmX3 hown hK hP hD hS 0 rfl rfl 2 (by decide) fl19 (fun _ h9 => h9) rfl (by decide +kernel) rfl rfl (Nat.le_of_ble_eq_true rfl) dX3_readDigits_88 (fun H locs hP hD hS => ?_)
              have hP : va_P D vwCl [(xp, .inr (3, [.ref p1, .int (nI pz), .int z_8])), (xt, .inr (5, [.ref t1, .int (nI tz)])), (t1, .inl (cI, 100, .inl tf))] H := hP
              have hD : va_D A [(xp, .inr (3, [.ref p1, .int (nI pz), .int z_8])), (xt, .inr (5, [.ref t1, .int (nI tz)])), (t1, .inl (cI, 100, .inl tf))] := hD
              refine lv_iconst (v := (-1)) hx hb dX3_readDigits_91 (by decide +kernel) ?_
              have ec_9 : ((-1) : Int32).toInt = -1 := by decide +kernel
              exact my_retI hx hb hr hlocks hK hS [(xp, .inr (3, [.ref p1, .int (nI pz), .int z_8])), (xt, .inr (5, [.ref t1, .int (nI tz)])), (t1, .inl (cI, 100, .inl tf))] (hP.sub [0, 1, 2] rfl) (hD.sub [0, 1, 2] (by decide) rfl) (⟨pz, z_8, rfl, (by first | omega | assumption | trivial | decide +kernel), (by first | omega | assumption | trivial | decide +kernel), (by first | omega | assumption | trivial | decide +kernel), (by first | omega | assumption | trivial | decide +kernel), (by first | omega | assumption | trivial | decide +kernel)⟩) dX3_readDigits_92
        ·
          have d63 : ((k : Nat) : Int) = (0 : Int) := my_eq c63 (nI_toInt (by omega)) (by decide +kernel)
          refine lv_iconst (v := (-1)) hx hb dX3_readDigits_66 (by decide +kernel) ?_
          have ec_10 : ((-1) : Int32).toInt = -1 := by decide +kernel
          exact my_retI hx hb hr hlocks hK hS [(xp, .inr (3, [.ref p1, .int (nI pz), .int xp_at_6])), (xt, .inr (5, [.ref t1, .int (nI tz)])), (t1, .inl (cI, 100, .inl tf))] (hP.sub [0, 1, 2] rfl) (hD.sub [0, 1, 2] (by decide) rfl) (⟨pz, xp_at_6, rfl, (by first | omega | assumption | trivial | decide +kernel), (by first | omega | assumption | trivial | decide +kernel), (by first | omega | assumption | trivial | decide +kernel), (by first | omega | assumption | trivial | decide +kernel), (by first | omega | assumption | trivial | decide +kernel)⟩) dX3_readDigits_67
      ·
        have d9 : ((k : Nat) : Int) < dg.toInt := my_nge c9 (nI_toInt (by omega)) rfl
        refine lv_aload_n hx hb dX3_readDigits_12 rfl (lv_at hl 3 rfl) ?_
        refine lv_aload_n hx hb dX3_readDigits_13 rfl (lv_at hl 2 rfl) ?_
        refine va_get (ci := 3) (v := .int xp_at_6) (C := RX3) (T := TX3) (N := 3) hx hb hts hi3 hown hK hP 0 rfl rfl 2 (by decide) fl19 (fun _ h9 => h9) rfl dX3_readDigits_14 ?_
        refine my_gpI (my_pV (As := [.int xp_at_6]) (rest := []) (ci := 5) ⟨hx, hb, hml, hown, hts⟩ (cwV 1 hts gX3_readDigits_X5_at rfl rfl rfl (by decide +kernel) ⟨Nat.le_of_ble_eq_true rfl, Nat.le_of_ble_eq_true rfl⟩) hN hK hP [1, 2] rfl 1 rfl rfl rfl rfl hl.1 rfl (Nat.le_of_ble_eq_true rfl) dX3_readDigits_17 ⟨Nat.le_of_ble_eq_true rfl, Nat.le_of_ble_eq_true rfl⟩  (k_X5_at l D cI cJ cK xt t1 tz tf xp_at_6 (by first | omega | decide +kernel | assumption))) (fun r hp => ?_)
        obtain _ := hp
        obtain ⟨r_11, rfl⟩ : ∃ z, z = r := ⟨_, rfl⟩
        refine my_gpI (my_pS (As := [.int r_11]) (rest := []) ⟨hx, hb, hml, hown, hts⟩ (va_cwS 1 hts gX3_readDigits_X3_isDigit rfl rfl rfl (by decide +kernel) ⟨Nat.le_of_ble_eq_true rfl, Nat.le_of_ble_eq_true rfl⟩) hN hK hP [] rfl rfl hl.1 rfl (Nat.le_of_ble_eq_true rfl) dX3_readDigits_20 ⟨Nat.le_of_ble_eq_true rfl, Nat.le_of_ble_eq_true rfl⟩  (k_X3_isDigit l D cI cJ cK r_11)) (fun r hp => ?_)
        rcases hp with ⟨rfl, ha_12, hb_13⟩ | ⟨rfl, ho_14⟩
        ·
          refine lv_if_eq (tgt := 61) hx hb dX3_readDigits_23 (by decide) (fun c23 => ?_) (fun c23 => ?_)
          ·
            exact absurd c23 (by decide +kernel)
          ·
            refine lv_iload hx hb dX3_readDigits_26 (lv_at hl 1 rfl) ?_
            refine lv_bipush (v := 10) hx hb dX3_readDigits_28 (by decide +kernel) ?_
            refine lv_imul hx hb dX3_readDigits_30 ?_
            refine lv_topi (fun z_15 ez_15 => ?_)
            try have tz_15 : z_15.toInt = y5_6.toInt * (10 : Int) := by rw [ez_15]; exact my_mulI rfl (by decide +kernel) (by omega) (by omega)
            refine lv_aload_n hx hb dX3_readDigits_31 rfl (lv_at hl 3 rfl) ?_
            refine lv_aload_n hx hb dX3_readDigits_32 rfl (lv_at hl 2 rfl) ?_
            refine va_get (ci := 3) (v := .int xp_at_6) (C := RX3) (T := TX3) (N := 3) hx hb hts hi3 hown hK hP 0 rfl rfl 2 (by decide) fl19 (fun _ h9 => h9) rfl dX3_readDigits_33 ?_
            refine my_gpI (my_pV (As := [.int xp_at_6]) (rest := [.int z_15]) (ci := 5) ⟨hx, hb, hml, hown, hts⟩ (cwV 1 hts gX3_readDigits_X5_at rfl rfl rfl (by decide +kernel) ⟨Nat.le_of_ble_eq_true rfl, Nat.le_of_ble_eq_true rfl⟩) hN hK hP [1, 2] rfl 1 rfl rfl rfl rfl hl.1 rfl (Nat.le_of_ble_eq_true rfl) dX3_readDigits_36 ⟨Nat.le_of_ble_eq_true rfl, Nat.le_of_ble_eq_true rfl⟩  (k_X5_at l D cI cJ cK xt t1 tz tf xp_at_6 (by first | omega | decide +kernel | assumption))) (fun r hp => ?_)
            obtain _ := hp
            obtain ⟨r_16, rfl⟩ : ∃ z, z = r := ⟨_, rfl⟩
            refine lv_iadd hx hb dX3_readDigits_39 ?_
            refine lv_topi (fun z_17 ez_17 => ?_)
            try have tz_17 : z_17.toInt = z_15.toInt + r_16.toInt := by rw [ez_17]; exact my_addI rfl rfl (by omega) (by omega)
            refine lv_bipush (v := 48) hx hb dX3_readDigits_40 (by decide +kernel) ?_
            refine lv_isub hx hb dX3_readDigits_42 ?_
            refine lv_topi (fun z_18 ez_18 => ?_)
            try have tz_18 : z_18.toInt = z_17.toInt - (48 : Int) := by rw [ez_18]; exact my_subI rfl (by decide +kernel) (by omega) (by omega)
            refine lv_istore (lv' := [(5, .int z_18), (6, .int (nI k)), (0, .ref xp), (1, .ref xt), (2, .int dg), (3, .int a9), (4, .int b9)]) hx hb dX3_readDigits_43 hl (by decide) rfl (fun ls hl => ?_)
            refine lv_aload_n hx hb dX3_readDigits_45 rfl (lv_at hl 2 rfl) ?_
            refine lv_dup hx hb dX3_readDigits_46 rfl ?_
            refine va_get (ci := 3) (v := .int xp_at_6) (C := RX3) (T := TX3) (N := 3) hx hb hts hi3 hown hK hP 0 rfl rfl 2 (by decide) fl19 (fun _ h9 => h9) rfl dX3_readDigits_47 ?_
            refine lv_iconst (v := 1) hx hb dX3_readDigits_50 (by decide +kernel) ?_
            refine lv_iadd hx hb dX3_readDigits_51 ?_
            refine lv_topi (fun z_19 ez_19 => ?_)
            try have tz_19 : z_19.toInt = xp_at_6.toInt + (1 : Int) := by rw [ez_19]; exact my_addI rfl (by decide +kernel) (by omega) (by omega)
            refine va_put (ci := 3) (v := .int z_19) (ty := (.int)) (C := RX3) (T := TX3) (N := 3) hx hb hts hi3 tyX3 tyX3_ok nmX3 hown hK hP hD hS 0 rfl rfl 2 (by decide) fl19 (fun _ h9 => h9) rfl (by decide +kernel) rfl rfl (Nat.le_of_ble_eq_true rfl) dX3_readDigits_52 (fun H locs hP hD hS => ?_)
            have hP : va_P D vwCl [(xp, .inr (3, [.ref p1, .int (nI pz), .int z_19])), (xt, .inr (5, [.ref t1, .int (nI tz)])), (t1, .inl (cI, 100, .inl tf))] H := hP
            have hD : va_D A [(xp, .inr (3, [.ref p1, .int (nI pz), .int z_19])), (xt, .inr (5, [.ref t1, .int (nI tz)])), (t1, .inl (cI, 100, .inl tf))] := hD
            refine lv_iinc (v := nI (k + 1)) (lv' := [(6, .int (nI (k + 1))), (5, .int z_18), (0, .ref xp), (1, .ref xt), (2, .int dg), (3, .int a9), (4, .int b9)]) hx hb dX3_readDigits_55 hl (k := 1) rfl (my_incN k 1 (by decide +kernel)) (by decide) rfl (fun ls hl => ?_)
            refine lv_goto (tgt := 6) hx hb dX3_readDigits_58 (by decide) ?_
            exact ih6  (k + 1) z_18 z_19 (by omega) (by first | omega | decide +kernel | assumption) _ _ ls (hP.sub [0, 1, 2] rfl) (hD.sub [0, 1, 2] (by decide) rfl) hS (lv_sub hl [0, 1, 2, 3, 4, 5, 6] rfl)
        ·
          refine lv_if_eq (tgt := 61) hx hb dX3_readDigits_23 (by decide) (fun c23 => ?_) (fun c23 => ?_)
          ·
            refine lv_iload hx hb dX3_readDigits_61 (lv_at hl 0 rfl) ?_
            refine lv_if_ne (tgt := 68) hx hb dX3_readDigits_63 (by decide) (fun c63 => ?_) (fun c63 => ?_)
            ·
              have d63 : ((k : Nat) : Int) ≠ (0 : Int) := my_ne c63 (nI_toInt (by omega)) (by decide +kernel)
              refine lv_iload hx hb dX3_readDigits_68 (lv_at hl 1 rfl) ?_
              refine lv_iload_n hx hb dX3_readDigits_70 rfl (lv_at hl 5 rfl) ?_
              refine lv_icmp_lt (tgt := 81) hx hb dX3_readDigits_71 (by decide) (fun c71 => ?_) (fun c71 => ?_)
              ·
                have d71 : y5_6.toInt < a9.toInt := my_lt c71 rfl rfl
                refine lv_aload_n hx hb dX3_readDigits_81 rfl (lv_at hl 2 rfl) ?_
                refine lv_dup hx hb dX3_readDigits_82 rfl ?_
                refine va_get (ci := 3) (v := .int xp_at_6) (C := RX3) (T := TX3) (N := 3) hx hb hts hi3 hown hK hP 0 rfl rfl 2 (by decide) fl19 (fun _ h9 => h9) rfl dX3_readDigits_83 ?_
                refine lv_iconst (v := 1) hx hb dX3_readDigits_86 (by decide +kernel) ?_
                refine lv_isub hx hb dX3_readDigits_87 ?_
                refine lv_topi (fun z_20 ez_20 => ?_)
                try have tz_20 : z_20.toInt = xp_at_6.toInt - (1 : Int) := by rw [ez_20]; exact my_subI rfl (by decide +kernel) (by omega) (by omega)
                refine va_put (ci := 3) (v := .int z_20) (ty := (.int)) (C := RX3) (T := TX3) (N := 3) hx hb hts hi3 tyX3 tyX3_ok nmX3 hown hK hP hD hS 0 rfl rfl 2 (by decide) fl19 (fun _ h9 => h9) rfl (by decide +kernel) rfl rfl (Nat.le_of_ble_eq_true rfl) dX3_readDigits_88 (fun H locs hP hD hS => ?_)
                have hP : va_P D vwCl [(xp, .inr (3, [.ref p1, .int (nI pz), .int z_20])), (xt, .inr (5, [.ref t1, .int (nI tz)])), (t1, .inl (cI, 100, .inl tf))] H := hP
                have hD : va_D A [(xp, .inr (3, [.ref p1, .int (nI pz), .int z_20])), (xt, .inr (5, [.ref t1, .int (nI tz)])), (t1, .inl (cI, 100, .inl tf))] := hD
                refine lv_iconst (v := (-1)) hx hb dX3_readDigits_91 (by decide +kernel) ?_
                have ec_21 : ((-1) : Int32).toInt = -1 := by decide +kernel
                exact my_retI hx hb hr hlocks hK hS [(xp, .inr (3, [.ref p1, .int (nI pz), .int z_20])), (xt, .inr (5, [.ref t1, .int (nI tz)])), (t1, .inl (cI, 100, .inl tf))] (hP.sub [0, 1, 2] rfl) (hD.sub [0, 1, 2] (by decide) rfl) (⟨pz, z_20, rfl, (by first | omega | assumption | trivial | decide +kernel), (by first | omega | assumption | trivial | decide +kernel), (by first | omega | assumption | trivial | decide +kernel), (by first | omega | assumption | trivial | decide +kernel), (by first | omega | assumption | trivial | decide +kernel)⟩) dX3_readDigits_92
              ·
                have d71 : y5_6.toInt ≥ a9.toInt := my_nlt c71 rfl rfl
                refine lv_iload hx hb dX3_readDigits_74 (lv_at hl 1 rfl) ?_
                refine lv_iload hx hb dX3_readDigits_76 (lv_at hl 6 rfl) ?_
                refine lv_icmp_le (tgt := 93) hx hb dX3_readDigits_78 (by decide) (fun c78 => ?_) (fun c78 => ?_)
                ·
                  have d78 : y5_6.toInt ≤ b9.toInt := my_le c78 rfl rfl
                  refine lv_aload_n hx hb dX3_readDigits_93 rfl (lv_at hl 3 rfl) ?_
                  refine lv_aload_n hx hb dX3_readDigits_94 rfl (lv_at hl 2 rfl) ?_
                  refine va_get (ci := 3) (v := .int xp_at_6) (C := RX3) (T := TX3) (N := 3) hx hb hts hi3 hown hK hP 0 rfl rfl 2 (by decide) fl19 (fun _ h9 => h9) rfl dX3_readDigits_95 ?_
                  refine my_gpI (my_pV (As := [.int xp_at_6]) (rest := []) (ci := 5) ⟨hx, hb, hml, hown, hts⟩ (cwV 1 hts gX3_readDigits_X5_at rfl rfl rfl (by decide +kernel) ⟨Nat.le_of_ble_eq_true rfl, Nat.le_of_ble_eq_true rfl⟩) hN hK hP [1, 2] rfl 1 rfl rfl rfl rfl hl.1 rfl (Nat.le_of_ble_eq_true rfl) dX3_readDigits_98 ⟨Nat.le_of_ble_eq_true rfl, Nat.le_of_ble_eq_true rfl⟩  (k_X5_at l D cI cJ cK xt t1 tz tf xp_at_6 (by first | omega | decide +kernel | assumption))) (fun r hp => ?_)
                  obtain _ := hp
                  obtain ⟨r_22, rfl⟩ : ∃ z, z = r := ⟨_, rfl⟩
                  refine my_gpI (my_pS (As := [.int r_22]) (rest := []) ⟨hx, hb, hml, hown, hts⟩ (va_cwS 1 hts gX3_readDigits_X3_isDigit rfl rfl rfl (by decide +kernel) ⟨Nat.le_of_ble_eq_true rfl, Nat.le_of_ble_eq_true rfl⟩) hN hK hP [] rfl rfl hl.1 rfl (Nat.le_of_ble_eq_true rfl) dX3_readDigits_101 ⟨Nat.le_of_ble_eq_true rfl, Nat.le_of_ble_eq_true rfl⟩  (k_X3_isDigit l D cI cJ cK r_22)) (fun r hp => ?_)
                  rcases hp with ⟨rfl, ha_23, hb_24⟩ | ⟨rfl, ho_25⟩
                  ·
                    refine lv_if_eq (tgt := 111) hx hb dX3_readDigits_104 (by decide) (fun c104 => ?_) (fun c104 => ?_)
                    ·
                      exact absurd c104 (by decide +kernel)
                    ·
                      refine lv_iconst (v := (-1)) hx hb dX3_readDigits_107 (by decide +kernel) ?_
                      refine lv_goto (tgt := 113) hx hb dX3_readDigits_108 (by decide) ?_
                      have ec_26 : ((-1) : Int32).toInt = -1 := by decide +kernel
                      exact my_retI hx hb hr hlocks hK hS [(xp, .inr (3, [.ref p1, .int (nI pz), .int xp_at_6])), (xt, .inr (5, [.ref t1, .int (nI tz)])), (t1, .inl (cI, 100, .inl tf))] (hP.sub [0, 1, 2] rfl) (hD.sub [0, 1, 2] (by decide) rfl) (⟨pz, xp_at_6, rfl, (by first | omega | assumption | trivial | decide +kernel), (by first | omega | assumption | trivial | decide +kernel), (by first | omega | assumption | trivial | decide +kernel), (by first | omega | assumption | trivial | decide +kernel), (by first | omega | assumption | trivial | decide +kernel)⟩) dX3_readDigits_113
                  ·
                    refine lv_if_eq (tgt := 111) hx hb dX3_readDigits_104 (by decide) (fun c104 => ?_) (fun c104 => ?_)
                    ·
                      refine lv_iload hx hb dX3_readDigits_111 (lv_at hl 1 rfl) ?_
                      exact my_retI hx hb hr hlocks hK hS [(xp, .inr (3, [.ref p1, .int (nI pz), .int xp_at_6])), (xt, .inr (5, [.ref t1, .int (nI tz)])), (t1, .inl (cI, 100, .inl tf))] (hP.sub [0, 1, 2] rfl) (hD.sub [0, 1, 2] (by decide) rfl) (⟨pz, xp_at_6, rfl, (by first | omega | assumption | trivial | decide +kernel), (by first | omega | assumption | trivial | decide +kernel), (by first | omega | assumption | trivial | decide +kernel), (by first | omega | assumption | trivial | decide +kernel), (by first | omega | assumption | trivial | decide +kernel)⟩) dX3_readDigits_113
                    ·
                      exact absurd c104 (by decide +kernel)
                ·
                  have d78 : y5_6.toInt > b9.toInt := my_nle c78 rfl rfl
                  refine lv_aload_n hx hb dX3_readDigits_81 rfl (lv_at hl 2 rfl) ?_
                  refine lv_dup hx hb dX3_readDigits_82 rfl ?_
                  refine va_get (ci := 3) (v := .int xp_at_6) (C := RX3) (T := TX3) (N := 3) hx hb hts hi3 hown hK hP 0 rfl rfl 2 (by decide) fl19 (fun _ h9 => h9) rfl dX3_readDigits_83 ?_
                  refine lv_iconst (v := 1) hx hb dX3_readDigits_86 (by decide +kernel) ?_
                  refine lv_isub hx hb dX3_readDigits_87 ?_
                  refine lv_topi (fun z_27 ez_27 => ?_)
                  try have tz_27 : z_27.toInt = xp_at_6.toInt - (1 : Int) := by rw [ez_27]; exact my_subI rfl (by decide +kernel) (by omega) (by omega)
                  refine va_put (ci := 3) (v := .int z_27) (ty := (.int)) (C := RX3) (T := TX3) (N := 3) hx hb hts hi3 tyX3 tyX3_ok nmX3 hown hK hP hD hS 0 rfl rfl 2 (by decide) fl19 (fun _ h9 => h9) rfl (by decide +kernel) rfl rfl (Nat.le_of_ble_eq_true rfl) dX3_readDigits_88 (fun H locs hP hD hS => ?_)
                  have hP : va_P D vwCl [(xp, .inr (3, [.ref p1, .int (nI pz), .int z_27])), (xt, .inr (5, [.ref t1, .int (nI tz)])), (t1, .inl (cI, 100, .inl tf))] H := hP
                  have hD : va_D A [(xp, .inr (3, [.ref p1, .int (nI pz), .int z_27])), (xt, .inr (5, [.ref t1, .int (nI tz)])), (t1, .inl (cI, 100, .inl tf))] := hD
                  refine lv_iconst (v := (-1)) hx hb dX3_readDigits_91 (by decide +kernel) ?_
                  have ec_28 : ((-1) : Int32).toInt = -1 := by decide +kernel
                  exact my_retI hx hb hr hlocks hK hS [(xp, .inr (3, [.ref p1, .int (nI pz), .int z_27])), (xt, .inr (5, [.ref t1, .int (nI tz)])), (t1, .inl (cI, 100, .inl tf))] (hP.sub [0, 1, 2] rfl) (hD.sub [0, 1, 2] (by decide) rfl) (⟨pz, z_27, rfl, (by first | omega | assumption | trivial | decide +kernel), (by first | omega | assumption | trivial | decide +kernel), (by first | omega | assumption | trivial | decide +kernel), (by first | omega | assumption | trivial | decide +kernel), (by first | omega | assumption | trivial | decide +kernel)⟩) dX3_readDigits_92
            ·
              have d63 : ((k : Nat) : Int) = (0 : Int) := my_eq c63 (nI_toInt (by omega)) (by decide +kernel)
              refine lv_iconst (v := (-1)) hx hb dX3_readDigits_66 (by decide +kernel) ?_
              have ec_29 : ((-1) : Int32).toInt = -1 := by decide +kernel
              exact my_retI hx hb hr hlocks hK hS [(xp, .inr (3, [.ref p1, .int (nI pz), .int xp_at_6])), (xt, .inr (5, [.ref t1, .int (nI tz)])), (t1, .inl (cI, 100, .inl tf))] (hP.sub [0, 1, 2] rfl) (hD.sub [0, 1, 2] (by decide) rfl) (⟨pz, xp_at_6, rfl, (by first | omega | assumption | trivial | decide +kernel), (by first | omega | assumption | trivial | decide +kernel), (by first | omega | assumption | trivial | decide +kernel), (by first | omega | assumption | trivial | decide +kernel), (by first | omega | assumption | trivial | decide +kernel)⟩) dX3_readDigits_67
          ·
            exact absurd c23 (by decide +kernel)
  have ec_30 : (0 : Int32).toInt = 0 := by decide +kernel
  exact loop6 ((3 - 0) + 1) 0 (0 : Int32) pa (Nat.lt_succ_self _) (by first | omega | decide +kernel | assumption) _ _ ls (hP.sub [0, 1, 2] rfl) (hD.sub [0, 1, 2] (by decide) rfl) hS (lv_sub hl [0, 1, 2, 3, 4, 5, 6] rfl)
set_option maxHeartbeats 4000000 in
set_option maxRecDepth 100000 in
theorem k_X3_readPart (l : Launch) (D : va_G) (cI cJ cK : ClassId) (xp : Nat) (p1 : Nat) (xt : Nat) (t1 : Nat) (pz : Nat) (pa : Int32) (pn : Nat → Int32) (tz : Nat) (tf : Nat → Int32) (hz_pz : pz ≤ 64) (hR_pn : RB 0 255 pn) (hz_tz : tz ≤ 100) : ctI l yX3_readPart wsX3_readPart ({ frames := 2, cells := 0, slots := 0, locals := 120 } : Room) D (tyIJ cI cJ cK) [.ref xp, .ref xt] [(xp, .inr (3, [.ref p1, .int (nI pz), .int pa])), (p1, .inl (cI, 64, .inl pn)), (xt, .inr (5, [.ref t1, .int (nI tz)])), (t1, .inl (cI, 100, .inl tf))] (fun (r : Int32) (u : va_W) => ∃ (pz' : Nat) (pa' : Int32) (pn' : Nat → Int32), u = [(xp, .inr (3, [.ref p1, .int (nI pz'), .int pa'])), (p1, .inl (cI, 64, .inl pn')), (xt, .inr (5, [.ref t1, .int (nI tz)])), (t1, .inl (cI, 100, .inl tf))] ∧ pz' ≤ 64 ∧ RB 0 255 pn') := by
  refine ctI.of (cc := cX3_readPart) (maxL := 6) (ret := (some .int)) (by decide) rfl (Nat.le_of_ble_eq_true rfl) ?_
  intro p e s m below meth c ls A hx hb hr hts hown hml hlocks hname hA hK hN hP hD hS hl
  have hl : lv_has ls 6 [(0, .ref xp), (1, .ref xt)] := hl
  have hown : s.vm.findClass RX3 = some m.cls := hown
  have hi3 : ∀ w ∈ u_ws RX3 TX3 3, w ∈ wsX3_readPart := by decide +kernel
  have fl15 := hts (.fieldLink RX3 15 "PlaneColumn$PartReader" "size" "I") (by decide +kernel)
  have fl19 := hts (.fieldLink RX3 19 "PlaneColumn$PartReader" "at" "I") (by decide +kernel)
  have fl9 := hts (.fieldLink RX3 9 "PlaneColumn$PartReader" "numbers" "[I") (by decide +kernel)
  refine lv_aload_n hx hb dX3_readPart_0 rfl (lv_at hl 0 rfl) ?_
  refine va_get (ci := 3) (v := .int pa) (C := RX3) (T := TX3) (N := 3) hx hb hts hi3 hown hK hP 0 rfl rfl 2 (by decide) fl19 (fun _ h9 => h9) rfl dX3_readPart_1 ?_
  refine lv_istore_n (lv' := [(2, .int pa), (0, .ref xp), (1, .ref xt)]) hx hb dX3_readPart_4 rfl hl (by decide) rfl (fun ls hl => ?_)
  refine lv_aload_n hx hb dX3_readPart_5 rfl (lv_at hl 1 rfl) ?_
  refine lv_aload_n hx hb dX3_readPart_6 rfl (lv_at hl 2 rfl) ?_
  refine lv_iconst (v := 3) hx hb dX3_readPart_7 (by decide +kernel) ?_
  refine lv_iconst (v := 0) hx hb dX3_readPart_8 (by decide +kernel) ?_
  refine lv_sipush (v := 255) hx hb dX3_readPart_9 (by decide +kernel) ?_
  refine my_goI (wr := [(p1, .inl (cI, 64, .inl pn))]) hP hD hS hA [0, 2, 3] [1] rfl rfl (by decide) (by decide) (my_cV (As := [.ref xt, .int 3, .int 0, .int 255]) (rest := []) (ci := 3) (wc := [(xp, .inr (3, [.ref p1, .int (nI pz), .int pa])), (xt, .inr (5, [.ref t1, .int (nI tz)])), (t1, .inl (cI, 100, .inl tf))]) ⟨hx, hb, hml, hown, hts⟩ (cwV 4 hts gX3_readPart_X3_readDigits rfl rfl rfl (by decide +kernel) ⟨Nat.le_of_ble_eq_true rfl, Nat.le_of_ble_eq_true rfl⟩) hN hK hP hD [0, 2, 3] rfl (by decide) rfl 0 rfl rfl rfl rfl hl.1 rfl (Nat.le_of_ble_eq_true rfl) dX3_readPart_12 ⟨Nat.le_of_ble_eq_true rfl, Nat.le_of_ble_eq_true rfl⟩  ((k_X3_readDigits l D cI cJ cK xp p1 xt t1 pz pa tz tf (3 : Int32) (3 : Int) (by decide +kernel) (0 : Int32) (0 : Int) (by decide +kernel) (255 : Int32) (255 : Int) (by decide +kernel) (by first | omega | decide +kernel | assumption) (by first | omega | decide +kernel | assumption) (by first | omega | decide +kernel | assumption) (by first | omega | decide +kernel | assumption) (by first | omega | decide +kernel | assumption)) _)) (fun r u H locs hp hP hD hS => ?_)
  obtain ⟨pz_1, pa_2, rfl, hhz_pz_3, hp_4, ha_5, hb_6, hc_7⟩ := hp
  obtain ⟨r_8, rfl⟩ : ∃ z, z = r := ⟨_, rfl⟩
  have hP : va_P D vwCl [(p1, .inl (cI, 64, .inl pn)), (xp, .inr (3, [.ref p1, .int (nI pz_1), .int pa_2])), (xt, .inr (5, [.ref t1, .int (nI tz)])), (t1, .inl (cI, 100, .inl tf))] H := hP
  have hD : va_D A [(p1, .inl (cI, 64, .inl pn)), (xp, .inr (3, [.ref p1, .int (nI pz_1), .int pa_2])), (xt, .inr (5, [.ref t1, .int (nI tz)])), (t1, .inl (cI, 100, .inl tf))] := hD
  refine lv_istore_n (lv' := [(3, .int r_8), (2, .int pa), (0, .ref xp), (1, .ref xt)]) hx hb dX3_readPart_15 rfl hl (by decide) rfl (fun ls hl => ?_)
  refine lv_iload_n hx hb dX3_readPart_16 rfl (lv_at hl 0 rfl) ?_
  refine lv_if_ge (tgt := 25) hx hb dX3_readPart_17 (by decide) (fun c17 => ?_) (fun c17 => ?_)
  ·
    have d17 : r_8.toInt ≥ (0 : Int) := my_ge c17 rfl (by decide +kernel)
    refine lv_iconst (v := 1) hx hb dX3_readPart_25 (by decide +kernel) ?_
    refine lv_istore (lv' := [(4, .int 1), (3, .int r_8), (2, .int pa), (0, .ref xp), (1, .ref xt)]) hx hb dX3_readPart_26 hl (by decide) rfl (fun ls hl => ?_)
    refine lv_aload_n hx hb dX3_readPart_28 rfl (lv_at hl 4 rfl) ?_
    refine lv_aload_n hx hb dX3_readPart_29 rfl (lv_at hl 3 rfl) ?_
    refine va_get (ci := 3) (v := .int pa_2) (C := RX3) (T := TX3) (N := 3) hx hb hts hi3 hown hK hP 1 rfl rfl 2 (by decide) fl19 (fun _ h9 => h9) rfl dX3_readPart_30 ?_
    refine my_gpI (my_pV (As := [.int pa_2]) (rest := []) (ci := 5) ⟨hx, hb, hml, hown, hts⟩ (cwV 1 hts gX3_readPart_X5_at rfl rfl rfl (by decide +kernel) ⟨Nat.le_of_ble_eq_true rfl, Nat.le_of_ble_eq_true rfl⟩) hN hK hP [2, 3] rfl 2 rfl rfl rfl rfl hl.1 rfl (Nat.le_of_ble_eq_true rfl) dX3_readPart_33 ⟨Nat.le_of_ble_eq_true rfl, Nat.le_of_ble_eq_true rfl⟩  (k_X5_at l D cI cJ cK xt t1 tz tf pa_2 (by first | omega | decide +kernel | assumption))) (fun r hp => ?_)
    obtain _ := hp
    obtain ⟨r_9, rfl⟩ : ∃ z, z = r := ⟨_, rfl⟩
    refine lv_bipush (v := 120) hx hb dX3_readPart_36 (by decide +kernel) ?_
    refine lv_icmp_ne (tgt := 72) hx hb dX3_readPart_38 (by decide) (fun c38 => ?_) (fun c38 => ?_)
    ·
      have d38 : r_9.toInt ≠ (120 : Int) := my_ne c38 rfl (by decide +kernel)
      refine lv_aload_n hx hb dX3_readPart_72 rfl (lv_at hl 3 rfl) ?_
      refine va_get (ci := 3) (v := .int (nI pz_1)) (C := RX3) (T := TX3) (N := 3) hx hb hts hi3 hown hK hP 1 rfl rfl 1 (by decide) fl15 (fun _ h9 => h9) rfl dX3_readPart_73 ?_
      refine lv_iload hx hb dX3_readPart_76 (lv_at hl 0 rfl) ?_
      refine lv_iadd hx hb dX3_readPart_78 ?_
      refine my_eqi (y := nI (pz_1 + 1)) (my_addN pz_1 1) ?_
      refine lv_bipush (v := 64) hx hb dX3_readPart_79 (by decide +kernel) ?_
      refine lv_icmp_le (tgt := 86) hx hb dX3_readPart_81 (by decide) (fun c81 => ?_) (fun c81 => ?_)
      ·
        have d81 : ((pz_1 + 1 : Nat) : Int) ≤ (64 : Int) := my_le c81 (nI_toInt (by omega)) (by decide +kernel)
        refine lv_iconst (v := 0) hx hb dX3_readPart_86 (by decide +kernel) ?_
        refine lv_istore (lv' := [(5, .int 0), (4, .int 1), (3, .int r_8), (2, .int pa), (0, .ref xp), (1, .ref xt)]) hx hb dX3_readPart_87 hl (by decide) rfl (fun ls hl => ?_)
        have loop89 : ∀ (n9 : Nat) (k : Nat) (p1_89 : Nat → Int32) (xp_size_89 : Nat), (1 - (k : Int)).toNat < n9 → (k ≤ 64) → (xp_size_89 = pz + k) → ((k : Int) ≤ 1) → (RB 0 255 p1_89) → (xp_size_89 ≤ 64) → ∀ (H : Heap) (locs : List Loc) (ls : Array Slot), va_P D vwCl [(p1, .inl (cI, 64, .inl p1_89)), (xp, .inr (3, [.ref p1, .int (nI xp_size_89), .int pa_2])), (xt, .inr (5, [.ref t1, .int (nI tz)])), (t1, .inl (cI, 100, .inl tf))] H → va_D A [(p1, .inl (cI, 64, .inl p1_89)), (xp, .inr (3, [.ref p1, .int (nI xp_size_89), .int pa_2])), (xt, .inr (5, [.ref t1, .int (nI tz)])), (t1, .inl (cI, 100, .inl tf))] → va_S A s.heap H locs → lv_has ls 6 [(5, .int (nI k)), (4, .int 1), (3, .int r_8), (2, .int pa), (0, .ref xp), (1, .ref xt)] → W p l e ({ frames := 2, cells := 0, slots := 0, locals := 120 } : Room) s m [.ref xp, .ref xt].toArray below meth c H locs 0 0 (MQ below (va_Qi (fun (r : Int32) (u : va_W) => ∃ (pz' : Nat) (pa' : Int32) (pn' : Nat → Int32), u = [(xp, .inr (3, [.ref p1, .int (nI pz'), .int pa'])), (p1, .inl (cI, 64, .inl pn')), (xt, .inr (5, [.ref t1, .int (nI tz)])), (t1, .inl (cI, 100, .inl tf))] ∧ pz' ≤ 64 ∧ RB 0 255 pn') (my_B D (tyIJ cI cJ cK) A) A) [.ref xp, .ref xt].toArray s 0 0 A) (F0 m 89 ls []) := by
          intro n9
          induction n9 with
          | zero =>
            intro k p1_89 xp_size_89 hn9
            exact absurd hn9 (Nat.not_lt_zero _)
          | succ n9 ih89 =>
            intro k p1_89 xp_size_89 hn9 hk_k hs hk2 hR_p1_89 hz_xp_size_89 H locs ls hP hD hS hl
            refine lv_iload hx hb dX3_readPart_89 (lv_at hl 0 rfl) ?_
            refine lv_iload hx hb dX3_readPart_91 (lv_at hl 1 rfl) ?_
            refine lv_icmp_ge (tgt := 122) hx hb dX3_readPart_93 (by decide) (fun c93 => ?_) (fun c93 => ?_)
            ·
              have d93 : ((k : Nat) : Int) ≥ (1 : Int) := my_ge c93 (nI_toInt (by omega)) (by decide +kernel)
              refine lv_iconst (v := (-1)) hx hb dX3_readPart_122 (by decide +kernel) ?_
              exact my_retI hx hb hr hlocks hK hS [(xp, .inr (3, [.ref p1, .int (nI xp_size_89), .int pa_2])), (p1, .inl (cI, 64, .inl p1_89)), (xt, .inr (5, [.ref t1, .int (nI tz)])), (t1, .inl (cI, 100, .inl tf))] (hP.sub [1, 0, 2, 3] rfl) (hD.sub [1, 0, 2, 3] (by decide) rfl) (⟨xp_size_89, pa_2, p1_89, rfl, (by first | omega | assumption | trivial | decide +kernel), hR_p1_89⟩) dX3_readPart_123
            ·
              have d93 : ((k : Nat) : Int) < (1 : Int) := my_nge c93 (nI_toInt (by omega)) (by decide +kernel)
              refine lv_aload_n hx hb dX3_readPart_96 rfl (lv_at hl 4 rfl) ?_
              refine va_get (ci := 3) (v := .ref p1) (C := RX3) (T := TX3) (N := 3) hx hb hts hi3 hown hK hP 1 rfl rfl 0 (by decide) fl9 (fun _ h9 => h9) rfl dX3_readPart_97 ?_
              refine lv_aload_n hx hb dX3_readPart_100 rfl (lv_at hl 4 rfl) ?_
              refine va_get (ci := 3) (v := .int (nI xp_size_89)) (C := RX3) (T := TX3) (N := 3) hx hb hts hi3 hown hK hP 1 rfl rfl 1 (by decide) fl15 (fun _ h9 => h9) rfl dX3_readPart_101 ?_
              refine lv_iload_n hx hb dX3_readPart_104 rfl (lv_at hl 2 rfl) ?_
              refine va_iast hx hb hK hP hD hS 0 0 rfl rfl (vp_in_nI (by omega) (by omega)) dX3_readPart_105 (fun H locs hP hD hS => ?_)
              obtain ⟨g_10, eg_10⟩ : ∃ g : Nat → Int32, g = upd p1_89 xp_size_89 r_8 := ⟨_, rfl⟩
              have eU : upd p1_89 (nI xp_size_89 : Int32).toNatClampNeg r_8 = g_10 := by rw [eg_10, show (nI xp_size_89 : Int32).toNatClampNeg = xp_size_89 from nI_clamp (by omega)]
              rw [eU] at hP hD
              have hR_g_10 : RB 0 255 g_10 := by rw [eg_10]; exact hR_p1_89.upd rfl (by omega) (by omega)
              have hP : va_P D vwCl [(p1, .inl (cI, 64, .inl g_10)), (xp, .inr (3, [.ref p1, .int (nI xp_size_89), .int pa_2])), (xt, .inr (5, [.ref t1, .int (nI tz)])), (t1, .inl (cI, 100, .inl tf))] H := hP
              have hD : va_D A [(p1, .inl (cI, 64, .inl g_10)), (xp, .inr (3, [.ref p1, .int (nI xp_size_89), .int pa_2])), (xt, .inr (5, [.ref t1, .int (nI tz)])), (t1, .inl (cI, 100, .inl tf))] := hD
              refine lv_aload_n hx hb dX3_readPart_106 rfl (lv_at hl 4 rfl) ?_
              refine lv_dup hx hb dX3_readPart_107 rfl ?_
              refine va_get (ci := 3) (v := .int (nI xp_size_89)) (C := RX3) (T := TX3) (N := 3) hx hb hts hi3 hown hK hP 1 rfl rfl 1 (by decide) fl15 (fun _ h9 => h9) rfl dX3_readPart_108 ?_
              refine lv_iconst (v := 1) hx hb dX3_readPart_111 (by decide +kernel) ?_
              refine lv_iadd hx hb dX3_readPart_112 ?_
              refine my_eqi (y := nI (xp_size_89 + 1)) (my_addN xp_size_89 1) ?_
              refine va_put (ci := 3) (v := .int (nI (xp_size_89 + 1))) (ty := (.int)) (C := RX3) (T := TX3) (N := 3) hx hb hts hi3 tyX3 tyX3_ok nmX3 hown hK hP hD hS 1 rfl rfl 1 (by decide) fl15 (fun _ h9 => h9) rfl (by decide +kernel) rfl rfl (Nat.le_of_ble_eq_true rfl) dX3_readPart_113 (fun H locs hP hD hS => ?_)
              have hP : va_P D vwCl [(p1, .inl (cI, 64, .inl g_10)), (xp, .inr (3, [.ref p1, .int (nI (xp_size_89 + 1)), .int pa_2])), (xt, .inr (5, [.ref t1, .int (nI tz)])), (t1, .inl (cI, 100, .inl tf))] H := hP
              have hD : va_D A [(p1, .inl (cI, 64, .inl g_10)), (xp, .inr (3, [.ref p1, .int (nI (xp_size_89 + 1)), .int pa_2])), (xt, .inr (5, [.ref t1, .int (nI tz)])), (t1, .inl (cI, 100, .inl tf))] := hD
              refine lv_iinc (v := nI (k + 1)) (lv' := [(5, .int (nI (k + 1))), (4, .int 1), (3, .int r_8), (2, .int pa), (0, .ref xp), (1, .ref xt)]) hx hb dX3_readPart_116 hl (k := 0) rfl (my_incN k 1 (by decide +kernel)) (by decide) rfl (fun ls hl => ?_)
              refine lv_goto (tgt := 89) hx hb dX3_readPart_119 (by decide) ?_
              exact ih89  (k + 1) g_10 (xp_size_89 + 1) (by omega) (by first | omega | decide +kernel | assumption) (by first | omega | decide +kernel | assumption) (by first | omega | decide +kernel | assumption) hR_g_10 (by first | omega | decide +kernel | assumption) _ _ ls (hP.sub [0, 1, 2, 3] rfl) (hD.sub [0, 1, 2, 3] (by decide) rfl) hS (lv_sub hl [0, 1, 2, 3, 4, 5] rfl)
        exact loop89 (((1 - (0 : Int)).toNat) + 1) 0 pn pz_1 (Nat.lt_succ_self _) (by first | omega | decide +kernel | assumption) (by first | omega | decide +kernel | assumption) (by first | omega | decide +kernel | assumption) hR_pn (by first | omega | decide +kernel | assumption) _ _ ls (hP.sub [0, 1, 2, 3] rfl) (hD.sub [0, 1, 2, 3] (by decide) rfl) hS (lv_sub hl [0, 1, 2, 3, 4, 5] rfl)
      ·
        have d81 : ((pz_1 + 1 : Nat) : Int) > (64 : Int) := my_nle c81 (nI_toInt (by omega)) (by decide +kernel)
        refine lv_iload_n hx hb dX3_readPart_84 rfl (lv_at hl 2 rfl) ?_
        exact my_retI hx hb hr hlocks hK hS [(xp, .inr (3, [.ref p1, .int (nI pz_1), .int pa_2])), (p1, .inl (cI, 64, .inl pn)), (xt, .inr (5, [.ref t1, .int (nI tz)])), (t1, .inl (cI, 100, .inl tf))] (hP.sub [1, 0, 2, 3] rfl) (hD.sub [1, 0, 2, 3] (by decide) rfl) (⟨pz_1, pa_2, pn, rfl, (by first | omega | assumption | trivial | decide +kernel), hR_pn⟩) dX3_readPart_85
    ·
      have d38 : r_9.toInt = (120 : Int) := my_eq c38 rfl (by decide +kernel)
      refine lv_aload_n hx hb dX3_readPart_41 rfl (lv_at hl 3 rfl) ?_
      refine lv_dup hx hb dX3_readPart_42 rfl ?_
      refine va_get (ci := 3) (v := .int pa_2) (C := RX3) (T := TX3) (N := 3) hx hb hts hi3 hown hK hP 1 rfl rfl 2 (by decide) fl19 (fun _ h9 => h9) rfl dX3_readPart_43 ?_
      refine lv_iconst (v := 1) hx hb dX3_readPart_46 (by decide +kernel) ?_
      refine lv_iadd hx hb dX3_readPart_47 ?_
      refine lv_topi (fun z_11 ez_11 => ?_)
      try have tz_11 : z_11.toInt = pa_2.toInt + (1 : Int) := by rw [ez_11]; exact my_addI rfl (by decide +kernel) (by omega) (by omega)
      refine va_put (ci := 3) (v := .int z_11) (ty := (.int)) (C := RX3) (T := TX3) (N := 3) hx hb hts hi3 tyX3 tyX3_ok nmX3 hown hK hP hD hS 1 rfl rfl 2 (by decide) fl19 (fun _ h9 => h9) rfl (by decide +kernel) rfl rfl (Nat.le_of_ble_eq_true rfl) dX3_readPart_48 (fun H locs hP hD hS => ?_)
      have hP : va_P D vwCl [(p1, .inl (cI, 64, .inl pn)), (xp, .inr (3, [.ref p1, .int (nI pz_1), .int z_11])), (xt, .inr (5, [.ref t1, .int (nI tz)])), (t1, .inl (cI, 100, .inl tf))] H := hP
      have hD : va_D A [(p1, .inl (cI, 64, .inl pn)), (xp, .inr (3, [.ref p1, .int (nI pz_1), .int z_11])), (xt, .inr (5, [.ref t1, .int (nI tz)])), (t1, .inl (cI, 100, .inl tf))] := hD
      refine lv_aload_n hx hb dX3_readPart_51 rfl (lv_at hl 3 rfl) ?_
      refine lv_aload_n hx hb dX3_readPart_52 rfl (lv_at hl 4 rfl) ?_
      refine lv_iconst (v := 2) hx hb dX3_readPart_53 (by decide +kernel) ?_
      refine lv_iconst (v := 1) hx hb dX3_readPart_54 (by decide +kernel) ?_
      refine lv_bipush (v := 64) hx hb dX3_readPart_55 (by decide +kernel) ?_
      refine my_goI (wr := [(p1, .inl (cI, 64, .inl pn))]) hP hD hS hA [1, 2, 3] [0] rfl rfl (by decide) (by decide) (my_cV (As := [.ref xt, .int 2, .int 1, .int 64]) (rest := []) (ci := 3) (wc := [(xp, .inr (3, [.ref p1, .int (nI pz_1), .int z_11])), (xt, .inr (5, [.ref t1, .int (nI tz)])), (t1, .inl (cI, 100, .inl tf))]) ⟨hx, hb, hml, hown, hts⟩ (cwV 4 hts gX3_readPart_X3_readDigits rfl rfl rfl (by decide +kernel) ⟨Nat.le_of_ble_eq_true rfl, Nat.le_of_ble_eq_true rfl⟩) hN hK hP hD [1, 2, 3] rfl (by decide) rfl 1 rfl rfl rfl rfl hl.1 rfl (Nat.le_of_ble_eq_true rfl) dX3_readPart_57 ⟨Nat.le_of_ble_eq_true rfl, Nat.le_of_ble_eq_true rfl⟩  ((k_X3_readDigits l D cI cJ cK xp p1 xt t1 pz_1 z_11 tz tf (2 : Int32) (2 : Int) (by decide +kernel) (1 : Int32) (1 : Int) (by decide +kernel) (64 : Int32) (64 : Int) (by decide +kernel) (by first | omega | decide +kernel | assumption) (by first | omega | decide +kernel | assumption) (by first | omega | decide +kernel | assumption) (by first | omega | decide +kernel | assumption) (by first | omega | decide +kernel | assumption)) _)) (fun r u H locs hp hP hD hS => ?_)
      obtain ⟨pz_12, pa_13, rfl, hhz_pz_14, hp_15, ha_16, hb_17, hc_18⟩ := hp
      obtain ⟨r_19, rfl⟩ : ∃ z, z = r := ⟨_, rfl⟩
      have hP : va_P D vwCl [(p1, .inl (cI, 64, .inl pn)), (xp, .inr (3, [.ref p1, .int (nI pz_12), .int pa_13])), (xt, .inr (5, [.ref t1, .int (nI tz)])), (t1, .inl (cI, 100, .inl tf))] H := hP
      have hD : va_D A [(p1, .inl (cI, 64, .inl pn)), (xp, .inr (3, [.ref p1, .int (nI pz_12), .int pa_13])), (xt, .inr (5, [.ref t1, .int (nI tz)])), (t1, .inl (cI, 100, .inl tf))] := hD
      refine lv_istore (lv' := [(4, .int r_19), (3, .int r_8), (2, .int pa), (0, .ref xp), (1, .ref xt)]) hx hb dX3_readPart_60 hl (by decide) rfl (fun ls hl => ?_)
      refine lv_iload hx hb dX3_readPart_62 (lv_at hl 0 rfl) ?_
      refine lv_if_ge (tgt := 72) hx hb dX3_readPart_64 (by decide) (fun c64 => ?_) (fun c64 => ?_)
      ·
        have d64 : r_19.toInt ≥ (0 : Int) := my_ge c64 rfl (by decide +kernel)
        refine lv_aload_n hx hb dX3_readPart_72 rfl (lv_at hl 3 rfl) ?_
        refine va_get (ci := 3) (v := .int (nI pz_12)) (C := RX3) (T := TX3) (N := 3) hx hb hts hi3 hown hK hP 1 rfl rfl 1 (by decide) fl15 (fun _ h9 => h9) rfl dX3_readPart_73 ?_
        refine lv_iload hx hb dX3_readPart_76 (lv_at hl 0 rfl) ?_
        refine lv_iadd hx hb dX3_readPart_78 ?_
        refine lv_topi (fun z_20 ez_20 => ?_)
        try have tz_20 : z_20.toInt = ((pz_12 : Nat) : Int) + r_19.toInt := by rw [ez_20]; exact my_addI (nI_toInt (by omega)) rfl (by omega) (by omega)
        refine lv_bipush (v := 64) hx hb dX3_readPart_79 (by decide +kernel) ?_
        refine lv_icmp_le (tgt := 86) hx hb dX3_readPart_81 (by decide) (fun c81 => ?_) (fun c81 => ?_)
        ·
          have d81 : z_20.toInt ≤ (64 : Int) := my_le c81 rfl (by decide +kernel)
          refine lv_iconst (v := 0) hx hb dX3_readPart_86 (by decide +kernel) ?_
          refine lv_istore (lv' := [(5, .int 0), (4, .int r_19), (3, .int r_8), (2, .int pa), (0, .ref xp), (1, .ref xt)]) hx hb dX3_readPart_87 hl (by decide) rfl (fun ls hl => ?_)
          have loop89 : ∀ (n9 : Nat) (k : Nat) (p1_89 : Nat → Int32) (xp_size_89 : Nat), (r_19.toInt - (k : Int)).toNat < n9 → (k ≤ 64) → (xp_size_89 = pz + k) → ((k : Int) ≤ r_19.toInt) → (RB 0 255 p1_89) → (xp_size_89 ≤ 64) → ∀ (H : Heap) (locs : List Loc) (ls : Array Slot), va_P D vwCl [(p1, .inl (cI, 64, .inl p1_89)), (xp, .inr (3, [.ref p1, .int (nI xp_size_89), .int pa_13])), (xt, .inr (5, [.ref t1, .int (nI tz)])), (t1, .inl (cI, 100, .inl tf))] H → va_D A [(p1, .inl (cI, 64, .inl p1_89)), (xp, .inr (3, [.ref p1, .int (nI xp_size_89), .int pa_13])), (xt, .inr (5, [.ref t1, .int (nI tz)])), (t1, .inl (cI, 100, .inl tf))] → va_S A s.heap H locs → lv_has ls 6 [(5, .int (nI k)), (4, .int r_19), (3, .int r_8), (2, .int pa), (0, .ref xp), (1, .ref xt)] → W p l e ({ frames := 2, cells := 0, slots := 0, locals := 120 } : Room) s m [.ref xp, .ref xt].toArray below meth c H locs 0 0 (MQ below (va_Qi (fun (r : Int32) (u : va_W) => ∃ (pz' : Nat) (pa' : Int32) (pn' : Nat → Int32), u = [(xp, .inr (3, [.ref p1, .int (nI pz'), .int pa'])), (p1, .inl (cI, 64, .inl pn')), (xt, .inr (5, [.ref t1, .int (nI tz)])), (t1, .inl (cI, 100, .inl tf))] ∧ pz' ≤ 64 ∧ RB 0 255 pn') (my_B D (tyIJ cI cJ cK) A) A) [.ref xp, .ref xt].toArray s 0 0 A) (F0 m 89 ls []) := by
            intro n9
            induction n9 with
            | zero =>
              intro k p1_89 xp_size_89 hn9
              exact absurd hn9 (Nat.not_lt_zero _)
            | succ n9 ih89 =>
              intro k p1_89 xp_size_89 hn9 hk_k hs hk2 hR_p1_89 hz_xp_size_89 H locs ls hP hD hS hl
              refine lv_iload hx hb dX3_readPart_89 (lv_at hl 0 rfl) ?_
              refine lv_iload hx hb dX3_readPart_91 (lv_at hl 1 rfl) ?_
              refine lv_icmp_ge (tgt := 122) hx hb dX3_readPart_93 (by decide) (fun c93 => ?_) (fun c93 => ?_)
              ·
                have d93 : ((k : Nat) : Int) ≥ r_19.toInt := my_ge c93 (nI_toInt (by omega)) rfl
                refine lv_iconst (v := (-1)) hx hb dX3_readPart_122 (by decide +kernel) ?_
                exact my_retI hx hb hr hlocks hK hS [(xp, .inr (3, [.ref p1, .int (nI xp_size_89), .int pa_13])), (p1, .inl (cI, 64, .inl p1_89)), (xt, .inr (5, [.ref t1, .int (nI tz)])), (t1, .inl (cI, 100, .inl tf))] (hP.sub [1, 0, 2, 3] rfl) (hD.sub [1, 0, 2, 3] (by decide) rfl) (⟨xp_size_89, pa_13, p1_89, rfl, (by first | omega | assumption | trivial | decide +kernel), hR_p1_89⟩) dX3_readPart_123
              ·
                have d93 : ((k : Nat) : Int) < r_19.toInt := my_nge c93 (nI_toInt (by omega)) rfl
                refine lv_aload_n hx hb dX3_readPart_96 rfl (lv_at hl 4 rfl) ?_
                refine va_get (ci := 3) (v := .ref p1) (C := RX3) (T := TX3) (N := 3) hx hb hts hi3 hown hK hP 1 rfl rfl 0 (by decide) fl9 (fun _ h9 => h9) rfl dX3_readPart_97 ?_
                refine lv_aload_n hx hb dX3_readPart_100 rfl (lv_at hl 4 rfl) ?_
                refine va_get (ci := 3) (v := .int (nI xp_size_89)) (C := RX3) (T := TX3) (N := 3) hx hb hts hi3 hown hK hP 1 rfl rfl 1 (by decide) fl15 (fun _ h9 => h9) rfl dX3_readPart_101 ?_
                refine lv_iload_n hx hb dX3_readPart_104 rfl (lv_at hl 2 rfl) ?_
                refine va_iast hx hb hK hP hD hS 0 0 rfl rfl (vp_in_nI (by omega) (by omega)) dX3_readPart_105 (fun H locs hP hD hS => ?_)
                obtain ⟨g_21, eg_21⟩ : ∃ g : Nat → Int32, g = upd p1_89 xp_size_89 r_8 := ⟨_, rfl⟩
                have eU : upd p1_89 (nI xp_size_89 : Int32).toNatClampNeg r_8 = g_21 := by rw [eg_21, show (nI xp_size_89 : Int32).toNatClampNeg = xp_size_89 from nI_clamp (by omega)]
                rw [eU] at hP hD
                have hR_g_21 : RB 0 255 g_21 := by rw [eg_21]; exact hR_p1_89.upd rfl (by omega) (by omega)
                have hP : va_P D vwCl [(p1, .inl (cI, 64, .inl g_21)), (xp, .inr (3, [.ref p1, .int (nI xp_size_89), .int pa_13])), (xt, .inr (5, [.ref t1, .int (nI tz)])), (t1, .inl (cI, 100, .inl tf))] H := hP
                have hD : va_D A [(p1, .inl (cI, 64, .inl g_21)), (xp, .inr (3, [.ref p1, .int (nI xp_size_89), .int pa_13])), (xt, .inr (5, [.ref t1, .int (nI tz)])), (t1, .inl (cI, 100, .inl tf))] := hD
                refine lv_aload_n hx hb dX3_readPart_106 rfl (lv_at hl 4 rfl) ?_
                refine lv_dup hx hb dX3_readPart_107 rfl ?_
                refine va_get (ci := 3) (v := .int (nI xp_size_89)) (C := RX3) (T := TX3) (N := 3) hx hb hts hi3 hown hK hP 1 rfl rfl 1 (by decide) fl15 (fun _ h9 => h9) rfl dX3_readPart_108 ?_
                refine lv_iconst (v := 1) hx hb dX3_readPart_111 (by decide +kernel) ?_
                refine lv_iadd hx hb dX3_readPart_112 ?_
                refine my_eqi (y := nI (xp_size_89 + 1)) (my_addN xp_size_89 1) ?_
                refine va_put (ci := 3) (v := .int (nI (xp_size_89 + 1))) (ty := (.int)) (C := RX3) (T := TX3) (N := 3) hx hb hts hi3 tyX3 tyX3_ok nmX3 hown hK hP hD hS 1 rfl rfl 1 (by decide) fl15 (fun _ h9 => h9) rfl (by decide +kernel) rfl rfl (Nat.le_of_ble_eq_true rfl) dX3_readPart_113 (fun H locs hP hD hS => ?_)
                have hP : va_P D vwCl [(p1, .inl (cI, 64, .inl g_21)), (xp, .inr (3, [.ref p1, .int (nI (xp_size_89 + 1)), .int pa_13])), (xt, .inr (5, [.ref t1, .int (nI tz)])), (t1, .inl (cI, 100, .inl tf))] H := hP
                have hD : va_D A [(p1, .inl (cI, 64, .inl g_21)), (xp, .inr (3, [.ref p1, .int (nI (xp_size_89 + 1)), .int pa_13])), (xt, .inr (5, [.ref t1, .int (nI tz)])), (t1, .inl (cI, 100, .inl tf))] := hD
                refine lv_iinc (v := nI (k + 1)) (lv' := [(5, .int (nI (k + 1))), (4, .int r_19), (3, .int r_8), (2, .int pa), (0, .ref xp), (1, .ref xt)]) hx hb dX3_readPart_116 hl (k := 0) rfl (my_incN k 1 (by decide +kernel)) (by decide) rfl (fun ls hl => ?_)
                refine lv_goto (tgt := 89) hx hb dX3_readPart_119 (by decide) ?_
                exact ih89  (k + 1) g_21 (xp_size_89 + 1) (by omega) (by first | omega | decide +kernel | assumption) (by first | omega | decide +kernel | assumption) (by first | omega | decide +kernel | assumption) hR_g_21 (by first | omega | decide +kernel | assumption) _ _ ls (hP.sub [0, 1, 2, 3] rfl) (hD.sub [0, 1, 2, 3] (by decide) rfl) hS (lv_sub hl [0, 1, 2, 3, 4, 5] rfl)
          exact loop89 (((r_19.toInt - (0 : Int)).toNat) + 1) 0 pn pz_12 (Nat.lt_succ_self _) (by first | omega | decide +kernel | assumption) (by first | omega | decide +kernel | assumption) (by first | omega | decide +kernel | assumption) hR_pn (by first | omega | decide +kernel | assumption) _ _ ls (hP.sub [0, 1, 2, 3] rfl) (hD.sub [0, 1, 2, 3] (by decide) rfl) hS (lv_sub hl [0, 1, 2, 3, 4, 5] rfl)
        ·
          have d81 : z_20.toInt > (64 : Int) := my_nle c81 rfl (by decide +kernel)
          refine lv_iload_n hx hb dX3_readPart_84 rfl (lv_at hl 2 rfl) ?_
          exact my_retI hx hb hr hlocks hK hS [(xp, .inr (3, [.ref p1, .int (nI pz_12), .int pa_13])), (p1, .inl (cI, 64, .inl pn)), (xt, .inr (5, [.ref t1, .int (nI tz)])), (t1, .inl (cI, 100, .inl tf))] (hP.sub [1, 0, 2, 3] rfl) (hD.sub [1, 0, 2, 3] (by decide) rfl) (⟨pz_12, pa_13, pn, rfl, (by first | omega | assumption | trivial | decide +kernel), hR_pn⟩) dX3_readPart_85
      ·
        have d64 : r_19.toInt < (0 : Int) := my_nge c64 rfl (by decide +kernel)
        refine lv_aload_n hx hb dX3_readPart_67 rfl (lv_at hl 3 rfl) ?_
        refine va_get (ci := 3) (v := .int pa_13) (C := RX3) (T := TX3) (N := 3) hx hb hts hi3 hown hK hP 1 rfl rfl 2 (by decide) fl19 (fun _ h9 => h9) rfl dX3_readPart_68 ?_
        exact my_retI hx hb hr hlocks hK hS [(xp, .inr (3, [.ref p1, .int (nI pz_12), .int pa_13])), (p1, .inl (cI, 64, .inl pn)), (xt, .inr (5, [.ref t1, .int (nI tz)])), (t1, .inl (cI, 100, .inl tf))] (hP.sub [1, 0, 2, 3] rfl) (hD.sub [1, 0, 2, 3] (by decide) rfl) (⟨pz_12, pa_13, pn, rfl, (by first | omega | assumption | trivial | decide +kernel), hR_pn⟩) dX3_readPart_71
  ·
    have d17 : r_8.toInt < (0 : Int) := my_nge c17 rfl (by decide +kernel)
    refine lv_aload_n hx hb dX3_readPart_20 rfl (lv_at hl 2 rfl) ?_
    refine va_get (ci := 3) (v := .int pa_2) (C := RX3) (T := TX3) (N := 3) hx hb hts hi3 hown hK hP 1 rfl rfl 2 (by decide) fl19 (fun _ h9 => h9) rfl dX3_readPart_21 ?_
    exact my_retI hx hb hr hlocks hK hS [(xp, .inr (3, [.ref p1, .int (nI pz_1), .int pa_2])), (p1, .inl (cI, 64, .inl pn)), (xt, .inr (5, [.ref t1, .int (nI tz)])), (t1, .inl (cI, 100, .inl tf))] (hP.sub [1, 0, 2, 3] rfl) (hD.sub [1, 0, 2, 3] (by decide) rfl) (⟨pz_1, pa_2, pn, rfl, (by first | omega | assumption | trivial | decide +kernel), hR_pn⟩) dX3_readPart_24
set_option maxHeartbeats 4000000 in
set_option maxRecDepth 100000 in
theorem k_X3_read (l : Launch) (D : va_G) (cI cJ cK : ClassId) (xp : Nat) (p1 : Nat) (xt : Nat) (t1 : Nat) (pz : Nat) (pa : Int32) (pn : Nat → Int32) (tz : Nat) (tf : Nat → Int32) (hz_pz : pz ≤ 64) (hR_pn : RB 0 255 pn) (hz_tz : tz ≤ 100) : ctI l yX3_read wsX3_read ({ frames := 3, cells := 0, slots := 0, locals := 180 } : Room) D (tyIJ cI cJ cK) [.ref xp, .ref xt] [(xp, .inr (3, [.ref p1, .int (nI pz), .int pa])), (p1, .inl (cI, 64, .inl pn)), (xt, .inr (5, [.ref t1, .int (nI tz)])), (t1, .inl (cI, 100, .inl tf))] (fun (r : Int32) (u : va_W) => ∃ (pz' : Nat) (pa' : Int32) (pn' : Nat → Int32), u = [(xp, .inr (3, [.ref p1, .int (nI pz'), .int pa'])), (p1, .inl (cI, 64, .inl pn')), (xt, .inr (5, [.ref t1, .int (nI tz)])), (t1, .inl (cI, 100, .inl tf))] ∧ pz' ≤ 64 ∧ RB 0 255 pn') := by
  refine ctI.of (cc := cX3_read) (maxL := 4) (ret := (some .int)) (by decide) rfl (Nat.le_of_ble_eq_true rfl) ?_
  intro p e s m below meth c ls A hx hb hr hts hown hml hlocks hname hA hK hN hP hD hS hl
  have hl : lv_has ls 4 [(0, .ref xp), (1, .ref xt)] := hl
  have hown : s.vm.findClass RX3 = some m.cls := hown
  have hi3 : ∀ w ∈ u_ws RX3 TX3 3, w ∈ wsX3_read := by decide +kernel
  have hi5 : ∀ w ∈ u_ws RX5 TX5 2, w ∈ wsX3_read := by decide +kernel
  have fl15 := hts (.fieldLink RX3 15 "PlaneColumn$PartReader" "size" "I") (by decide +kernel)
  have fl19 := hts (.fieldLink RX3 19 "PlaneColumn$PartReader" "at" "I") (by decide +kernel)
  refine lv_aload_n hx hb dX3_read_0 rfl (lv_at hl 0 rfl) ?_
  refine lv_iconst (v := 0) hx hb dX3_read_1 (by decide +kernel) ?_
  refine va_put (ci := 3) (v := .int 0) (ty := (.int)) (C := RX3) (T := TX3) (N := 3) hx hb hts hi3 tyX3 tyX3_ok nmX3 hown hK hP hD hS 0 rfl rfl 1 (by decide) fl15 (fun _ h9 => h9) rfl (by decide +kernel) rfl rfl (Nat.le_of_ble_eq_true rfl) dX3_read_2 (fun H locs hP hD hS => ?_)
  have hP : va_P D vwCl [(xp, .inr (3, [.ref p1, .int 0, .int pa])), (p1, .inl (cI, 64, .inl pn)), (xt, .inr (5, [.ref t1, .int (nI tz)])), (t1, .inl (cI, 100, .inl tf))] H := hP
  have hD : va_D A [(xp, .inr (3, [.ref p1, .int 0, .int pa])), (p1, .inl (cI, 64, .inl pn)), (xt, .inr (5, [.ref t1, .int (nI tz)])), (t1, .inl (cI, 100, .inl tf))] := hD
  refine lv_aload_n hx hb dX3_read_5 rfl (lv_at hl 0 rfl) ?_
  refine lv_iconst (v := 0) hx hb dX3_read_6 (by decide +kernel) ?_
  refine va_put (ci := 3) (v := .int 0) (ty := (.int)) (C := RX3) (T := TX3) (N := 3) hx hb hts hi3 tyX3 tyX3_ok nmX3 hown hK hP hD hS 0 rfl rfl 2 (by decide) fl19 (fun _ h9 => h9) rfl (by decide +kernel) rfl rfl (Nat.le_of_ble_eq_true rfl) dX3_read_7 (fun H locs hP hD hS => ?_)
  have hP : va_P D vwCl [(xp, .inr (3, [.ref p1, .int 0, .int 0])), (p1, .inl (cI, 64, .inl pn)), (xt, .inr (5, [.ref t1, .int (nI tz)])), (t1, .inl (cI, 100, .inl tf))] H := hP
  have hD : va_D A [(xp, .inr (3, [.ref p1, .int 0, .int 0])), (p1, .inl (cI, 64, .inl pn)), (xt, .inr (5, [.ref t1, .int (nI tz)])), (t1, .inl (cI, 100, .inl tf))] := hD
  refine lv_aload_n hx hb dX3_read_10 rfl (lv_at hl 1 rfl) ?_
  refine va_getN (ci := 5) (v := .int (nI tz)) (C := RX5) (T := TX5) (N := 2) hx hb hts hi5 hown hK hP 2 rfl rfl 1 (by decide) (nw_f_RX3_22 hN) (fun _ h9 => h9) rfl dX3_read_11 ?_
  refine lv_if_ne (tgt := 19) hx hb dX3_read_14 (by decide) (fun c14 => ?_) (fun c14 => ?_)
  ·
    have d14 : ((tz : Nat) : Int) ≠ (0 : Int) := my_ne c14 (nI_toInt (by omega)) (by decide +kernel)
    refine lv_iconst (v := 0) hx hb dX3_read_19 (by decide +kernel) ?_
    refine lv_istore_n (lv' := [(2, .int 0), (0, .ref xp), (1, .ref xt)]) hx hb dX3_read_20 rfl hl (by decide) rfl (fun ls hl => ?_)
    have loop21 : ∀ (n9 : Nat) (k : Nat) (xp_size_21 : Nat) (xp_at_21 : Int32) (p1_21 : Nat → Int32), 100 - k < n9 → (k ≤ 100) → (xp_size_21 ≤ 64) → (RB 0 255 p1_21) → ∀ (H : Heap) (locs : List Loc) (ls : Array Slot), va_P D vwCl [(xp, .inr (3, [.ref p1, .int (nI xp_size_21), .int xp_at_21])), (p1, .inl (cI, 64, .inl p1_21)), (xt, .inr (5, [.ref t1, .int (nI tz)])), (t1, .inl (cI, 100, .inl tf))] H → va_D A [(xp, .inr (3, [.ref p1, .int (nI xp_size_21), .int xp_at_21])), (p1, .inl (cI, 64, .inl p1_21)), (xt, .inr (5, [.ref t1, .int (nI tz)])), (t1, .inl (cI, 100, .inl tf))] → va_S A s.heap H locs → lv_has ls 4 [(2, .int (nI k)), (0, .ref xp), (1, .ref xt)] → W p l e ({ frames := 3, cells := 0, slots := 0, locals := 180 } : Room) s m [.ref xp, .ref xt].toArray below meth c H locs 0 0 (MQ below (va_Qi (fun (r : Int32) (u : va_W) => ∃ (pz' : Nat) (pa' : Int32) (pn' : Nat → Int32), u = [(xp, .inr (3, [.ref p1, .int (nI pz'), .int pa'])), (p1, .inl (cI, 64, .inl pn')), (xt, .inr (5, [.ref t1, .int (nI tz)])), (t1, .inl (cI, 100, .inl tf))] ∧ pz' ≤ 64 ∧ RB 0 255 pn') (my_B D (tyIJ cI cJ cK) A) A) [.ref xp, .ref xt].toArray s 0 0 A) (F0 m 21 ls []) := by
      intro n9
      induction n9 with
      | zero =>
        intro k xp_size_21 xp_at_21 p1_21 hn9
        exact absurd hn9 (Nat.not_lt_zero _)
      | succ n9 ih21 =>
        intro k xp_size_21 xp_at_21 p1_21 hn9 hk_k hz_xp_size_21 hR_p1_21 H locs ls hP hD hS hl
        refine lv_iload_n hx hb dX3_read_21 rfl (lv_at hl 0 rfl) ?_
        refine lv_bipush (v := 100) hx hb dX3_read_22 (by decide +kernel) ?_
        refine lv_icmp_ge (tgt := 87) hx hb dX3_read_24 (by decide) (fun c24 => ?_) (fun c24 => ?_)
        ·
          have d24 : ((k : Nat) : Int) ≥ (100 : Int) := my_ge c24 (nI_toInt (by omega)) (by decide +kernel)
          refine lv_aload_n hx hb dX3_read_87 rfl (lv_at hl 1 rfl) ?_
          refine va_get (ci := 3) (v := .int xp_at_21) (C := RX3) (T := TX3) (N := 3) hx hb hts hi3 hown hK hP 0 rfl rfl 2 (by decide) fl19 (fun _ h9 => h9) rfl dX3_read_88 ?_
          exact my_retI hx hb hr hlocks hK hS [(xp, .inr (3, [.ref p1, .int (nI xp_size_21), .int xp_at_21])), (p1, .inl (cI, 64, .inl p1_21)), (xt, .inr (5, [.ref t1, .int (nI tz)])), (t1, .inl (cI, 100, .inl tf))] (hP.sub [0, 1, 2, 3] rfl) (hD.sub [0, 1, 2, 3] (by decide) rfl) (⟨xp_size_21, xp_at_21, p1_21, rfl, (by first | omega | assumption | trivial | decide +kernel), hR_p1_21⟩) dX3_read_91
        ·
          have d24 : ((k : Nat) : Int) < (100 : Int) := my_nge c24 (nI_toInt (by omega)) (by decide +kernel)
          refine lv_aload_n hx hb dX3_read_27 rfl (lv_at hl 1 rfl) ?_
          refine lv_aload_n hx hb dX3_read_28 rfl (lv_at hl 2 rfl) ?_
          refine my_goI (wr := []) hP hD hS hA [0, 1, 2, 3] [] rfl rfl (by decide) (by decide) (my_cV (As := [.ref xt]) (rest := []) (ci := 3) (wc := [(xp, .inr (3, [.ref p1, .int (nI xp_size_21), .int xp_at_21])), (p1, .inl (cI, 64, .inl p1_21)), (xt, .inr (5, [.ref t1, .int (nI tz)])), (t1, .inl (cI, 100, .inl tf))]) ⟨hx, hb, hml, hown, hts⟩ (cwV 1 hts gX3_read_X3_readPart rfl rfl rfl (by decide +kernel) ⟨Nat.le_of_ble_eq_true rfl, Nat.le_of_ble_eq_true rfl⟩) hN hK hP hD [0, 1, 2, 3] rfl (by decide) rfl 0 rfl rfl rfl rfl hl.1 rfl (Nat.le_of_ble_eq_true rfl) dX3_read_29 ⟨Nat.le_of_ble_eq_true rfl, Nat.le_of_ble_eq_true rfl⟩  ((k_X3_readPart l D cI cJ cK xp p1 xt t1 xp_size_21 xp_at_21 p1_21 tz tf (by first | omega | decide +kernel | assumption) hR_p1_21 (by first | omega | decide +kernel | assumption)) _)) (fun r u H locs hp hP hD hS => ?_)
          obtain ⟨pz_1, pa_2, pn_3, rfl, hhz_pz_4, hR_pn_3⟩ := hp
          obtain ⟨r_5, rfl⟩ : ∃ z, z = r := ⟨_, rfl⟩
          have hP : va_P D vwCl [(xp, .inr (3, [.ref p1, .int (nI pz_1), .int pa_2])), (p1, .inl (cI, 64, .inl pn_3)), (xt, .inr (5, [.ref t1, .int (nI tz)])), (t1, .inl (cI, 100, .inl tf))] H := hP
          have hD : va_D A [(xp, .inr (3, [.ref p1, .int (nI pz_1), .int pa_2])), (p1, .inl (cI, 64, .inl pn_3)), (xt, .inr (5, [.ref t1, .int (nI tz)])), (t1, .inl (cI, 100, .inl tf))] := hD
          refine lv_istore_n (lv' := [(3, .int r_5), (2, .int (nI k)), (0, .ref xp), (1, .ref xt)]) hx hb dX3_read_32 rfl hl (by decide) rfl (fun ls hl => ?_)
          refine lv_iload_n hx hb dX3_read_33 rfl (lv_at hl 0 rfl) ?_
          refine lv_iconst (v := (-1)) hx hb dX3_read_34 (by decide +kernel) ?_
          refine lv_icmp_eq (tgt := 40) hx hb dX3_read_35 (by decide) (fun c35 => ?_) (fun c35 => ?_)
          ·
            have d35 : r_5.toInt = (-1 : Int) := my_eq c35 rfl (by decide +kernel)
            refine lv_aload_n hx hb dX3_read_40 rfl (lv_at hl 2 rfl) ?_
            refine va_get (ci := 3) (v := .int pa_2) (C := RX3) (T := TX3) (N := 3) hx hb hts hi3 hown hK hP 0 rfl rfl 2 (by decide) fl19 (fun _ h9 => h9) rfl dX3_read_41 ?_
            refine lv_aload_n hx hb dX3_read_44 rfl (lv_at hl 3 rfl) ?_
            refine va_getN (ci := 5) (v := .int (nI tz)) (C := RX5) (T := TX5) (N := 2) hx hb hts hi5 hown hK hP 2 rfl rfl 1 (by decide) (nw_f_RX3_22 hN) (fun _ h9 => h9) rfl dX3_read_45 ?_
            refine lv_icmp_lt (tgt := 53) hx hb dX3_read_48 (by decide) (fun c48 => ?_) (fun c48 => ?_)
            ·
              have d48 : pa_2.toInt < ((tz : Nat) : Int) := my_lt c48 rfl (nI_toInt (by omega))
              refine lv_aload_n hx hb dX3_read_53 rfl (lv_at hl 3 rfl) ?_
              refine lv_aload_n hx hb dX3_read_54 rfl (lv_at hl 2 rfl) ?_
              refine va_get (ci := 3) (v := .int pa_2) (C := RX3) (T := TX3) (N := 3) hx hb hts hi3 hown hK hP 0 rfl rfl 2 (by decide) fl19 (fun _ h9 => h9) rfl dX3_read_55 ?_
              refine my_gpI (my_pV (As := [.int pa_2]) (rest := []) (ci := 5) ⟨hx, hb, hml, hown, hts⟩ (cwV 1 hts gX3_read_X5_at rfl rfl rfl (by decide +kernel) ⟨Nat.le_of_ble_eq_true rfl, Nat.le_of_ble_eq_true rfl⟩) hN hK hP [2, 3] rfl 2 rfl rfl rfl rfl hl.1 rfl (Nat.le_of_ble_eq_true rfl) dX3_read_58 ⟨Nat.le_of_ble_eq_true rfl, Nat.le_of_ble_eq_true rfl⟩  (k_X5_at l D cI cJ cK xt t1 tz tf pa_2 (by first | omega | decide +kernel | assumption))) (fun r hp => ?_)
              obtain _ := hp
              obtain ⟨r_6, rfl⟩ : ∃ z, z = r := ⟨_, rfl⟩
              refine lv_bipush (v := 44) hx hb dX3_read_61 (by decide +kernel) ?_
              refine lv_icmp_eq (tgt := 71) hx hb dX3_read_63 (by decide) (fun c63 => ?_) (fun c63 => ?_)
              ·
                have d63 : r_6.toInt = (44 : Int) := my_eq c63 rfl (by decide +kernel)
                refine lv_aload_n hx hb dX3_read_71 rfl (lv_at hl 2 rfl) ?_
                refine lv_dup hx hb dX3_read_72 rfl ?_
                refine va_get (ci := 3) (v := .int pa_2) (C := RX3) (T := TX3) (N := 3) hx hb hts hi3 hown hK hP 0 rfl rfl 2 (by decide) fl19 (fun _ h9 => h9) rfl dX3_read_73 ?_
                refine lv_iconst (v := 1) hx hb dX3_read_76 (by decide +kernel) ?_
                refine lv_iadd hx hb dX3_read_77 ?_
                refine lv_topi (fun z_7 ez_7 => ?_)
                try have tz_7 : z_7.toInt = pa_2.toInt + (1 : Int) := by rw [ez_7]; exact my_addI rfl (by decide +kernel) (by omega) (by omega)
                refine va_put (ci := 3) (v := .int z_7) (ty := (.int)) (C := RX3) (T := TX3) (N := 3) hx hb hts hi3 tyX3 tyX3_ok nmX3 hown hK hP hD hS 0 rfl rfl 2 (by decide) fl19 (fun _ h9 => h9) rfl (by decide +kernel) rfl rfl (Nat.le_of_ble_eq_true rfl) dX3_read_78 (fun H locs hP hD hS => ?_)
                have hP : va_P D vwCl [(xp, .inr (3, [.ref p1, .int (nI pz_1), .int z_7])), (p1, .inl (cI, 64, .inl pn_3)), (xt, .inr (5, [.ref t1, .int (nI tz)])), (t1, .inl (cI, 100, .inl tf))] H := hP
                have hD : va_D A [(xp, .inr (3, [.ref p1, .int (nI pz_1), .int z_7])), (p1, .inl (cI, 64, .inl pn_3)), (xt, .inr (5, [.ref t1, .int (nI tz)])), (t1, .inl (cI, 100, .inl tf))] := hD
                refine lv_iinc (v := nI (k + 1)) (lv' := [(2, .int (nI (k + 1))), (3, .int r_5), (0, .ref xp), (1, .ref xt)]) hx hb dX3_read_81 hl (k := 1) rfl (my_incN k 1 (by decide +kernel)) (by decide) rfl (fun ls hl => ?_)
                refine lv_goto (tgt := 21) hx hb dX3_read_84 (by decide) ?_
                exact ih21  (k + 1) pz_1 z_7 pn_3 (by omega) (by first | omega | decide +kernel | assumption) (by first | omega | decide +kernel | assumption) hR_pn_3 _ _ ls (hP.sub [0, 1, 2, 3] rfl) (hD.sub [0, 1, 2, 3] (by decide) rfl) hS (lv_sub hl [0, 2, 3] rfl)
              ·
                have d63 : r_6.toInt ≠ (44 : Int) := my_ne c63 rfl (by decide +kernel)
                refine lv_aload_n hx hb dX3_read_66 rfl (lv_at hl 2 rfl) ?_
                refine va_get (ci := 3) (v := .int pa_2) (C := RX3) (T := TX3) (N := 3) hx hb hts hi3 hown hK hP 0 rfl rfl 2 (by decide) fl19 (fun _ h9 => h9) rfl dX3_read_67 ?_
                exact my_retI hx hb hr hlocks hK hS [(xp, .inr (3, [.ref p1, .int (nI pz_1), .int pa_2])), (p1, .inl (cI, 64, .inl pn_3)), (xt, .inr (5, [.ref t1, .int (nI tz)])), (t1, .inl (cI, 100, .inl tf))] (hP.sub [0, 1, 2, 3] rfl) (hD.sub [0, 1, 2, 3] (by decide) rfl) (⟨pz_1, pa_2, pn_3, rfl, (by first | omega | assumption | trivial | decide +kernel), hR_pn_3⟩) dX3_read_70
            ·
              have d48 : pa_2.toInt ≥ ((tz : Nat) : Int) := my_nlt c48 rfl (nI_toInt (by omega))
              refine lv_iconst (v := (-1)) hx hb dX3_read_51 (by decide +kernel) ?_
              exact my_retI hx hb hr hlocks hK hS [(xp, .inr (3, [.ref p1, .int (nI pz_1), .int pa_2])), (p1, .inl (cI, 64, .inl pn_3)), (xt, .inr (5, [.ref t1, .int (nI tz)])), (t1, .inl (cI, 100, .inl tf))] (hP.sub [0, 1, 2, 3] rfl) (hD.sub [0, 1, 2, 3] (by decide) rfl) (⟨pz_1, pa_2, pn_3, rfl, (by first | omega | assumption | trivial | decide +kernel), hR_pn_3⟩) dX3_read_52
          ·
            have d35 : r_5.toInt ≠ (-1 : Int) := my_ne c35 rfl (by decide +kernel)
            refine lv_iload_n hx hb dX3_read_38 rfl (lv_at hl 0 rfl) ?_
            exact my_retI hx hb hr hlocks hK hS [(xp, .inr (3, [.ref p1, .int (nI pz_1), .int pa_2])), (p1, .inl (cI, 64, .inl pn_3)), (xt, .inr (5, [.ref t1, .int (nI tz)])), (t1, .inl (cI, 100, .inl tf))] (hP.sub [0, 1, 2, 3] rfl) (hD.sub [0, 1, 2, 3] (by decide) rfl) (⟨pz_1, pa_2, pn_3, rfl, (by first | omega | assumption | trivial | decide +kernel), hR_pn_3⟩) dX3_read_39
    have ec_8 : (0 : Int32).toInt = 0 := by decide +kernel
    exact loop21 ((100 - 0) + 1) 0 0 (0 : Int32) pn (Nat.lt_succ_self _) (by first | omega | decide +kernel | assumption) (by first | omega | decide +kernel | assumption) hR_pn _ _ ls (hP.sub [0, 1, 2, 3] rfl) (hD.sub [0, 1, 2, 3] (by decide) rfl) hS (lv_sub hl [0, 1, 2] rfl)
  ·
    have d14 : ((tz : Nat) : Int) = (0 : Int) := my_eq c14 (nI_toInt (by omega)) (by decide +kernel)
    refine lv_iconst (v := (-1)) hx hb dX3_read_17 (by decide +kernel) ?_
    exact my_retI hx hb hr hlocks hK hS [(xp, .inr (3, [.ref p1, .int 0, .int 0])), (p1, .inl (cI, 64, .inl pn)), (xt, .inr (5, [.ref t1, .int (nI tz)])), (t1, .inl (cI, 100, .inl tf))] (hP.sub [0, 1, 2, 3] rfl) (hD.sub [0, 1, 2, 3] (by decide) rfl) (⟨0, 0, pn, rfl, (by first | omega | assumption | trivial | decide +kernel), hR_pn⟩) dX3_read_18
set_option maxHeartbeats 4000000 in
set_option maxRecDepth 100000 in
theorem k_X4_readBits (l : Launch) (D : va_G) (cI cJ cK : ClassId) (xq : Nat) (q1 : Nat) (xt : Nat) (t1 : Nat) (qw : Nat) (qb : Nat → Int64) (tz : Nat) (tf : Nat → Int32) (b9 : Int32) (lv : Nat) (mo : Nat) (hz_qw : qw ≤ 11) (hz_tz : tz ≤ 100) (hlv : lv < 8) (hm : mo ≤ 11) : ctI l yX4_readBits wsX4_readBits ({ frames := 1, cells := 0, slots := 0, locals := 60 } : Room) D (tyIJ cI cJ cK) [.ref xq, .ref xt, .int b9, .int (nI lv), .int (nI mo)] [(xq, .inr (4, [.ref q1, .int (nI qw)])), (q1, .inl (cJ, 8, .inr (.inl qb))), (xt, .inr (5, [.ref t1, .int (nI tz)])), (t1, .inl (cI, 100, .inl tf))] (fun (r : Int32) (u : va_W) => ∃ (k' : Nat) (qb' : Nat → Int64), u = [(xq, .inr (4, [.ref q1, .int (nI qw)])), (q1, .inl (cJ, 8, .inr (.inl qb'))), (xt, .inr (5, [.ref t1, .int (nI tz)])), (t1, .inl (cI, 100, .inl tf))] ∧ r = nI k' ∧ k' ≤ mo) := by
  refine ctI.of (cc := cX4_readBits) (maxL := 6) (ret := (some .int)) (by decide) rfl (Nat.le_of_ble_eq_true rfl) ?_
  intro p e s m below meth c ls A hx hb hr hts hown hml hlocks hname hA hK hN hP hD hS hl
  have hl : lv_has ls 6 [(0, .ref xq), (1, .ref xt), (2, .int b9), (3, .int (nI lv)), (4, .int (nI mo))] := hl
  have hown : s.vm.findClass RX4 = some m.cls := hown
  have hi4 : ∀ w ∈ u_ws RX4 TX4 2, w ∈ wsX4_readBits := by decide +kernel
  have fl9 := hts (.fieldLink RX4 9 "PlaneColumn$PlaneReader" "bits" "[J") (by decide +kernel)
  refine lv_aload_n hx hb dX4_readBits_0 rfl (lv_at hl 0 rfl) ?_
  refine va_get (ci := 4) (v := .ref q1) (C := RX4) (T := TX4) (N := 2) hx hb hts hi4 hown hK hP 0 rfl rfl 0 (by decide) fl9 (fun _ h9 => h9) rfl dX4_readBits_1 ?_
  refine lv_iload_n hx hb dX4_readBits_4 rfl (lv_at hl 3 rfl) ?_
  refine lv_lconst (v := 0) hx hb dX4_readBits_5 (by decide +kernel) ?_
  refine va_last hx hb hK hP hD hS 1 1 rfl rfl (vp_in_nI (by omega) (by omega)) dX4_readBits_6 (fun H locs hP hD hS => ?_)
  obtain ⟨g_1, eg_1⟩ : ∃ g : Nat → Int64, g = vp_updL qb lv 0 := ⟨_, rfl⟩
  have eU : vp_updL qb (nI lv : Int32).toNatClampNeg 0 = g_1 := by rw [eg_1, show (nI lv : Int32).toNatClampNeg = lv from nI_clamp (by omega)]
  rw [eU] at hP hD
  have hP : va_P D vwCl [(xq, .inr (4, [.ref q1, .int (nI qw)])), (q1, .inl (cJ, 8, .inr (.inl g_1))), (xt, .inr (5, [.ref t1, .int (nI tz)])), (t1, .inl (cI, 100, .inl tf))] H := hP
  have hD : va_D A [(xq, .inr (4, [.ref q1, .int (nI qw)])), (q1, .inl (cJ, 8, .inr (.inl g_1))), (xt, .inr (5, [.ref t1, .int (nI tz)])), (t1, .inl (cI, 100, .inl tf))] := hD
  refine lv_iconst (v := 0) hx hb dX4_readBits_7 (by decide +kernel) ?_
  refine lv_istore (lv' := [(5, .int 0), (0, .ref xq), (1, .ref xt), (2, .int b9), (3, .int (nI lv)), (4, .int (nI mo))]) hx hb dX4_readBits_8 hl (by decide) rfl (fun ls hl => ?_)
  have loop10 : ∀ (n9 : Nat) (k : Nat) (q1_10 : Nat → Int64), mo - k < n9 → (k ≤ mo) → ∀ (H : Heap) (locs : List Loc) (ls : Array Slot), va_P D vwCl [(xq, .inr (4, [.ref q1, .int (nI qw)])), (q1, .inl (cJ, 8, .inr (.inl q1_10))), (xt, .inr (5, [.ref t1, .int (nI tz)])), (t1, .inl (cI, 100, .inl tf))] H → va_D A [(xq, .inr (4, [.ref q1, .int (nI qw)])), (q1, .inl (cJ, 8, .inr (.inl q1_10))), (xt, .inr (5, [.ref t1, .int (nI tz)])), (t1, .inl (cI, 100, .inl tf))] → va_S A s.heap H locs → lv_has ls 6 [(5, .int (nI k)), (0, .ref xq), (1, .ref xt), (2, .int b9), (3, .int (nI lv)), (4, .int (nI mo))] → W p l e ({ frames := 1, cells := 0, slots := 0, locals := 60 } : Room) s m [.ref xq, .ref xt, .int b9, .int (nI lv), .int (nI mo)].toArray below meth c H locs 0 0 (MQ below (va_Qi (fun (r : Int32) (u : va_W) => ∃ (k' : Nat) (qb' : Nat → Int64), u = [(xq, .inr (4, [.ref q1, .int (nI qw)])), (q1, .inl (cJ, 8, .inr (.inl qb'))), (xt, .inr (5, [.ref t1, .int (nI tz)])), (t1, .inl (cI, 100, .inl tf))] ∧ r = nI k' ∧ k' ≤ mo) (my_B D (tyIJ cI cJ cK) A) A) [.ref xq, .ref xt, .int b9, .int (nI lv), .int (nI mo)].toArray s 0 0 A) (F0 m 10 ls []) := by
    intro n9
    induction n9 with
    | zero =>
      intro k q1_10 hn9
      exact absurd hn9 (Nat.not_lt_zero _)
    | succ n9 ih10 =>
      intro k q1_10 hn9 hk_k H locs ls hP hD hS hl
      refine lv_iload hx hb dX4_readBits_10 (lv_at hl 0 rfl) ?_
      refine lv_iload hx hb dX4_readBits_12 (lv_at hl 5 rfl) ?_
      refine lv_icmp_ge (tgt := 61) hx hb dX4_readBits_14 (by decide) (fun c14 => ?_) (fun c14 => ?_)
      ·
        have d14 : ((k : Nat) : Int) ≥ ((mo : Nat) : Int) := my_ge c14 (nI_toInt (by omega)) (nI_toInt (by omega))
        refine lv_iload hx hb dX4_readBits_61 (lv_at hl 0 rfl) ?_
        exact my_retI hx hb hr hlocks hK hS [(xq, .inr (4, [.ref q1, .int (nI qw)])), (q1, .inl (cJ, 8, .inr (.inl q1_10))), (xt, .inr (5, [.ref t1, .int (nI tz)])), (t1, .inl (cI, 100, .inl tf))] (hP.sub [0, 1, 2, 3] rfl) (hD.sub [0, 1, 2, 3] (by decide) rfl) (⟨k, q1_10, rfl, rfl, (by first | omega | assumption | trivial | decide +kernel)⟩) dX4_readBits_63
      ·
        have d14 : ((k : Nat) : Int) < ((mo : Nat) : Int) := my_nge c14 (nI_toInt (by omega)) (nI_toInt (by omega))
        refine lv_aload_n hx hb dX4_readBits_17 rfl (lv_at hl 2 rfl) ?_
        refine lv_iload_n hx hb dX4_readBits_18 rfl (lv_at hl 3 rfl) ?_
        refine lv_iload hx hb dX4_readBits_19 (lv_at hl 0 rfl) ?_
        refine lv_iadd hx hb dX4_readBits_21 ?_
        refine lv_topi (fun z_2 ez_2 => ?_)
        try have tz_2 : z_2.toInt = b9.toInt + ((k : Nat) : Int) := by rw [ez_2]; exact my_addI rfl (nI_toInt (by omega)) (by omega) (by omega)
        refine my_gpI (my_pV (As := [.int z_2]) (rest := []) (ci := 5) ⟨hx, hb, hml, hown, hts⟩ (cwV 1 hts gX4_readBits_X5_at rfl rfl rfl (by decide +kernel) ⟨Nat.le_of_ble_eq_true rfl, Nat.le_of_ble_eq_true rfl⟩) hN hK hP [2, 3] rfl 2 rfl rfl rfl rfl hl.1 rfl (Nat.le_of_ble_eq_true rfl) dX4_readBits_22 ⟨Nat.le_of_ble_eq_true rfl, Nat.le_of_ble_eq_true rfl⟩  (k_X5_at l D cI cJ cK xt t1 tz tf z_2 (by first | omega | decide +kernel | assumption))) (fun r hp => ?_)
        obtain _ := hp
        obtain ⟨r_3, rfl⟩ : ∃ z, z = r := ⟨_, rfl⟩
        refine my_gpI (my_pS (As := [.int r_3]) (rest := []) ⟨hx, hb, hml, hown, hts⟩ (va_cwS 1 hts gX4_readBits_X4_isBit rfl rfl rfl (by decide +kernel) ⟨Nat.le_of_ble_eq_true rfl, Nat.le_of_ble_eq_true rfl⟩) hN hK hP [] rfl rfl hl.1 rfl (Nat.le_of_ble_eq_true rfl) dX4_readBits_25 ⟨Nat.le_of_ble_eq_true rfl, Nat.le_of_ble_eq_true rfl⟩  (k_X4_isBit l D cI cJ cK r_3)) (fun r hp => ?_)
        rcases hp with ⟨rfl, ha_4, hb_5⟩ | rfl
        ·
          refine lv_if_eq (tgt := 61) hx hb dX4_readBits_28 (by decide) (fun c28 => ?_) (fun c28 => ?_)
          ·
            exact absurd c28 (by decide +kernel)
          ·
            refine lv_aload_n hx hb dX4_readBits_31 rfl (lv_at hl 1 rfl) ?_
            refine va_get (ci := 4) (v := .ref q1) (C := RX4) (T := TX4) (N := 2) hx hb hts hi4 hown hK hP 0 rfl rfl 0 (by decide) fl9 (fun _ h9 => h9) rfl dX4_readBits_32 ?_
            refine lv_iload_n hx hb dX4_readBits_35 rfl (lv_at hl 4 rfl) ?_
            refine lv_dup2_11 hx hb dX4_readBits_36 rfl rfl ?_
            refine va_lald hx hb hK hP 1 1 rfl rfl (vp_in_nI (by omega) (by omega)) dX4_readBits_37 ?_
            refine my_eql (y := q1_10 lv) (congrArg q1_10 (nI_clamp (by omega))) ?_
            refine lv_aload_n hx hb dX4_readBits_38 rfl (lv_at hl 2 rfl) ?_
            refine lv_iload_n hx hb dX4_readBits_39 rfl (lv_at hl 3 rfl) ?_
            refine lv_iload hx hb dX4_readBits_40 (lv_at hl 0 rfl) ?_
            refine lv_iadd hx hb dX4_readBits_42 ?_
            refine lv_topi (fun z_7 ez_7 => ?_)
            try have tz_7 : z_7.toInt = b9.toInt + ((k : Nat) : Int) := by rw [ez_7]; exact my_addI rfl (nI_toInt (by omega)) (by omega) (by omega)
            refine my_gpI (my_pV (As := [.int z_7]) (rest := [.long (q1_10 lv), .int (nI lv), .ref q1]) (ci := 5) ⟨hx, hb, hml, hown, hts⟩ (cwV 1 hts gX4_readBits_X5_at rfl rfl rfl (by decide +kernel) ⟨Nat.le_of_ble_eq_true rfl, Nat.le_of_ble_eq_true rfl⟩) hN hK hP [2, 3] rfl 2 rfl rfl rfl rfl hl.1 rfl (Nat.le_of_ble_eq_true rfl) dX4_readBits_43 ⟨Nat.le_of_ble_eq_true rfl, Nat.le_of_ble_eq_true rfl⟩  (k_X5_at l D cI cJ cK xt t1 tz tf z_7 (by first | omega | decide +kernel | assumption))) (fun r hp => ?_)
            obtain _ := hp
            obtain ⟨r_8, rfl⟩ : ∃ z, z = r := ⟨_, rfl⟩
            refine lv_bipush (v := 48) hx hb dX4_readBits_46 (by decide +kernel) ?_
            refine lv_isub hx hb dX4_readBits_48 ?_
            refine lv_topi (fun z_9 ez_9 => ?_)
            try have tz_9 : z_9.toInt = r_8.toInt - (48 : Int) := by rw [ez_9]; exact my_subI rfl (by decide +kernel) (by omega) (by omega)
            refine lv_i2l (v := z_9.toInt64) hx hb dX4_readBits_49 rfl ?_
            refine lv_iload hx hb dX4_readBits_50 (lv_at hl 0 rfl) ?_
            refine lv_lshl hx hb dX4_readBits_52 rfl ?_
            refine lv_topl (fun z_10 ez_10 => ?_)
            refine lv_lor hx hb dX4_readBits_53 ?_
            refine lv_topl (fun z_11 ez_11 => ?_)
            refine va_last hx hb hK hP hD hS 1 1 rfl rfl (vp_in_nI (by omega) (by omega)) dX4_readBits_54 (fun H locs hP hD hS => ?_)
            obtain ⟨g_12, eg_12⟩ : ∃ g : Nat → Int64, g = vp_updL q1_10 lv z_11 := ⟨_, rfl⟩
            have eU : vp_updL q1_10 (nI lv : Int32).toNatClampNeg z_11 = g_12 := by rw [eg_12, show (nI lv : Int32).toNatClampNeg = lv from nI_clamp (by omega)]
            rw [eU] at hP hD
            have hP : va_P D vwCl [(xq, .inr (4, [.ref q1, .int (nI qw)])), (q1, .inl (cJ, 8, .inr (.inl g_12))), (xt, .inr (5, [.ref t1, .int (nI tz)])), (t1, .inl (cI, 100, .inl tf))] H := hP
            have hD : va_D A [(xq, .inr (4, [.ref q1, .int (nI qw)])), (q1, .inl (cJ, 8, .inr (.inl g_12))), (xt, .inr (5, [.ref t1, .int (nI tz)])), (t1, .inl (cI, 100, .inl tf))] := hD
            refine lv_iinc (v := nI (k + 1)) (lv' := [(5, .int (nI (k + 1))), (0, .ref xq), (1, .ref xt), (2, .int b9), (3, .int (nI lv)), (4, .int (nI mo))]) hx hb dX4_readBits_55 hl (k := 0) rfl (my_incN k 1 (by decide +kernel)) (by decide) rfl (fun ls hl => ?_)
            refine lv_goto (tgt := 10) hx hb dX4_readBits_58 (by decide) ?_
            exact ih10  (k + 1) g_12 (by omega) (by first | omega | decide +kernel | assumption) _ _ ls (hP.sub [0, 1, 2, 3] rfl) (hD.sub [0, 1, 2, 3] (by decide) rfl) hS (lv_sub hl [0, 1, 2, 3, 4, 5] rfl)
        ·
          refine lv_if_eq (tgt := 61) hx hb dX4_readBits_28 (by decide) (fun c28 => ?_) (fun c28 => ?_)
          ·
            refine lv_iload hx hb dX4_readBits_61 (lv_at hl 0 rfl) ?_
            exact my_retI hx hb hr hlocks hK hS [(xq, .inr (4, [.ref q1, .int (nI qw)])), (q1, .inl (cJ, 8, .inr (.inl q1_10))), (xt, .inr (5, [.ref t1, .int (nI tz)])), (t1, .inl (cI, 100, .inl tf))] (hP.sub [0, 1, 2, 3] rfl) (hD.sub [0, 1, 2, 3] (by decide) rfl) (⟨k, q1_10, rfl, rfl, (by first | omega | assumption | trivial | decide +kernel)⟩) dX4_readBits_63
          ·
            exact absurd c28 (by decide +kernel)
  exact loop10 ((mo - 0) + 1) 0 g_1 (Nat.lt_succ_self _) (by first | omega | decide +kernel | assumption) _ _ ls (hP.sub [0, 1, 2, 3] rfl) (hD.sub [0, 1, 2, 3] (by decide) rfl) hS (lv_sub hl [0, 1, 2, 3, 4, 5] rfl)
set_option maxHeartbeats 4000000 in
set_option maxRecDepth 100000 in
theorem k_X4_read (l : Launch) (D : va_G) (cI cJ cK : ClassId) (xq : Nat) (q1 : Nat) (xt : Nat) (t1 : Nat) (qw : Nat) (qb : Nat → Int64) (tz : Nat) (tf : Nat → Int32) (hz_qw : qw ≤ 11) (hz_tz : tz ≤ 100) : ctI l yX4_read wsX4_read ({ frames := 2, cells := 0, slots := 0, locals := 120 } : Room) D (tyIJ cI cJ cK) [.ref xq, .ref xt] [(xq, .inr (4, [.ref q1, .int (nI qw)])), (q1, .inl (cJ, 8, .inr (.inl qb))), (xt, .inr (5, [.ref t1, .int (nI tz)])), (t1, .inl (cI, 100, .inl tf))] (fun (r : Int32) (u : va_W) => ∃ (qw' : Nat) (qb' : Nat → Int64), u = [(xq, .inr (4, [.ref q1, .int (nI qw')])), (q1, .inl (cJ, 8, .inr (.inl qb'))), (xt, .inr (5, [.ref t1, .int (nI tz)])), (t1, .inl (cI, 100, .inl tf))] ∧ qw' ≤ 11) := by
  refine ctI.of (cc := cX4_read) (maxL := 6) (ret := (some .int)) (by decide) rfl (Nat.le_of_ble_eq_true rfl) ?_
  intro p e s m below meth c ls A hx hb hr hts hown hml hlocks hname hA hK hN hP hD hS hl
  have hl : lv_has ls 6 [(0, .ref xq), (1, .ref xt)] := hl
  have hown : s.vm.findClass RX4 = some m.cls := hown
  have hi4 : ∀ w ∈ u_ws RX4 TX4 2, w ∈ wsX4_read := by decide +kernel
  have fl15 := hts (.fieldLink RX4 15 "PlaneColumn$PlaneReader" "width" "I") (by decide +kernel)
  refine lv_iconst (v := 0) hx hb dX4_read_0 (by decide +kernel) ?_
  refine lv_istore_n (lv' := [(2, .int 0), (0, .ref xq), (1, .ref xt)]) hx hb dX4_read_1 rfl hl (by decide) rfl (fun ls hl => ?_)
  refine lv_iconst (v := 0) hx hb dX4_read_2 (by decide +kernel) ?_
  refine lv_istore_n (lv' := [(3, .int 0), (2, .int 0), (0, .ref xq), (1, .ref xt)]) hx hb dX4_read_3 rfl hl (by decide) rfl (fun ls hl => ?_)
  have loop4 : ∀ (n9 : Nat) (k : Nat) (y2_4 : Int32) (xq_width_4 : Nat) (q1_4 : Nat → Int64), 8 - k < n9 → (k ≤ 8) → (xq_width_4 ≤ 11) → ∀ (H : Heap) (locs : List Loc) (ls : Array Slot), va_P D vwCl [(xq, .inr (4, [.ref q1, .int (nI xq_width_4)])), (q1, .inl (cJ, 8, .inr (.inl q1_4))), (xt, .inr (5, [.ref t1, .int (nI tz)])), (t1, .inl (cI, 100, .inl tf))] H → va_D A [(xq, .inr (4, [.ref q1, .int (nI xq_width_4)])), (q1, .inl (cJ, 8, .inr (.inl q1_4))), (xt, .inr (5, [.ref t1, .int (nI tz)])), (t1, .inl (cI, 100, .inl tf))] → va_S A s.heap H locs → lv_has ls 6 [(3, .int (nI k)), (2, .int y2_4), (0, .ref xq), (1, .ref xt)] → W p l e ({ frames := 2, cells := 0, slots := 0, locals := 120 } : Room) s m [.ref xq, .ref xt].toArray below meth c H locs 0 0 (MQ below (va_Qi (fun (r : Int32) (u : va_W) => ∃ (qw' : Nat) (qb' : Nat → Int64), u = [(xq, .inr (4, [.ref q1, .int (nI qw')])), (q1, .inl (cJ, 8, .inr (.inl qb'))), (xt, .inr (5, [.ref t1, .int (nI tz)])), (t1, .inl (cI, 100, .inl tf))] ∧ qw' ≤ 11) (my_B D (tyIJ cI cJ cK) A) A) [.ref xq, .ref xt].toArray s 0 0 A) (F0 m 4 ls []) := by
    intro n9
    induction n9 with
    | zero =>
      intro k y2_4 xq_width_4 q1_4 hn9
      exact absurd hn9 (Nat.not_lt_zero _)
    | succ n9 ih4 =>
      intro k y2_4 xq_width_4 q1_4 hn9 hk_k hz_xq_width_4 H locs ls hP hD hS hl
      refine lv_iload_n hx hb dX4_read_4 rfl (lv_at hl 0 rfl) ?_
      refine lv_bipush (v := 8) hx hb dX4_read_5 (by decide +kernel) ?_
      refine lv_icmp_ge (tgt := 91) hx hb dX4_read_7 (by decide) (fun c7 => ?_) (fun c7 => ?_)
      ·
        have d7 : ((k : Nat) : Int) ≥ (8 : Int) := my_ge c7 (nI_toInt (by omega)) (by decide +kernel)
        refine lv_iconst (v := (-1)) hx hb dX4_read_91 (by decide +kernel) ?_
        exact my_retI hx hb hr hlocks hK hS [(xq, .inr (4, [.ref q1, .int (nI xq_width_4)])), (q1, .inl (cJ, 8, .inr (.inl q1_4))), (xt, .inr (5, [.ref t1, .int (nI tz)])), (t1, .inl (cI, 100, .inl tf))] (hP.sub [0, 1, 2, 3] rfl) (hD.sub [0, 1, 2, 3] (by decide) rfl) (⟨xq_width_4, q1_4, rfl, (by first | omega | assumption | trivial | decide +kernel)⟩) dX4_read_92
      ·
        have d7 : ((k : Nat) : Int) < (8 : Int) := my_nge c7 (nI_toInt (by omega)) (by decide +kernel)
        refine lv_aload_n hx hb dX4_read_10 rfl (lv_at hl 2 rfl) ?_
        refine lv_aload_n hx hb dX4_read_11 rfl (lv_at hl 3 rfl) ?_
        refine lv_iload_n hx hb dX4_read_12 rfl (lv_at hl 1 rfl) ?_
        refine lv_iload_n hx hb dX4_read_13 rfl (lv_at hl 0 rfl) ?_
        refine lv_iload_n hx hb dX4_read_14 rfl (lv_at hl 0 rfl) ?_
        refine lv_if_ne (tgt := 23) hx hb dX4_read_15 (by decide) (fun c15 => ?_) (fun c15 => ?_)
        ·
          have d15 : ((k : Nat) : Int) ≠ (0 : Int) := my_ne c15 (nI_toInt (by omega)) (by decide +kernel)
          refine lv_aload_n hx hb dX4_read_23 rfl (lv_at hl 2 rfl) ?_
          refine va_get (ci := 4) (v := .int (nI xq_width_4)) (C := RX4) (T := TX4) (N := 2) hx hb hts hi4 hown hK hP 0 rfl rfl 1 (by decide) fl15 (fun _ h9 => h9) rfl dX4_read_24 ?_
          refine my_goI (wr := []) hP hD hS hA [0, 1, 2, 3] [] rfl rfl (by decide) (by decide) (my_cV (As := [.ref xt, .int y2_4, .int (nI k), .int (nI xq_width_4)]) (rest := []) (ci := 4) (wc := [(xq, .inr (4, [.ref q1, .int (nI xq_width_4)])), (q1, .inl (cJ, 8, .inr (.inl q1_4))), (xt, .inr (5, [.ref t1, .int (nI tz)])), (t1, .inl (cI, 100, .inl tf))]) ⟨hx, hb, hml, hown, hts⟩ (cwV 4 hts gX4_read_X4_readBits rfl rfl rfl (by decide +kernel) ⟨Nat.le_of_ble_eq_true rfl, Nat.le_of_ble_eq_true rfl⟩) hN hK hP hD [0, 1, 2, 3] rfl (by decide) rfl 0 rfl rfl rfl rfl hl.1 rfl (Nat.le_of_ble_eq_true rfl) dX4_read_27 ⟨Nat.le_of_ble_eq_true rfl, Nat.le_of_ble_eq_true rfl⟩  ((k_X4_readBits l D cI cJ cK xq q1 xt t1 xq_width_4 q1_4 tz tf y2_4 k xq_width_4 (by first | omega | decide +kernel | assumption) (by first | omega | decide +kernel | assumption) (by first | omega | decide +kernel | assumption) (by first | omega | decide +kernel | assumption)) _)) (fun r u H locs hp hP hD hS => ?_)
          obtain ⟨k_1, qb_2, rfl, rfl, hk_3⟩ := hp
          have hP : va_P D vwCl [(xq, .inr (4, [.ref q1, .int (nI xq_width_4)])), (q1, .inl (cJ, 8, .inr (.inl qb_2))), (xt, .inr (5, [.ref t1, .int (nI tz)])), (t1, .inl (cI, 100, .inl tf))] H := hP
          have hD : va_D A [(xq, .inr (4, [.ref q1, .int (nI xq_width_4)])), (q1, .inl (cJ, 8, .inr (.inl qb_2))), (xt, .inr (5, [.ref t1, .int (nI tz)])), (t1, .inl (cI, 100, .inl tf))] := hD
          refine lv_istore (lv' := [(4, .int (nI k_1)), (3, .int (nI k)), (2, .int y2_4), (0, .ref xq), (1, .ref xt)]) hx hb dX4_read_30 hl (by decide) rfl (fun ls hl => ?_)
          refine lv_iload_n hx hb dX4_read_32 rfl (lv_at hl 2 rfl) ?_
          refine lv_iload hx hb dX4_read_33 (lv_at hl 0 rfl) ?_
          refine lv_iadd hx hb dX4_read_35 ?_
          refine lv_topi (fun z_4 ez_4 => ?_)
          try have tz_4 : z_4.toInt = y2_4.toInt + ((k_1 : Nat) : Int) := by rw [ez_4]; exact my_addI rfl (nI_toInt (by omega)) (by omega) (by omega)
          refine lv_istore_n (lv' := [(2, .int z_4), (4, .int (nI k_1)), (3, .int (nI k)), (0, .ref xq), (1, .ref xt)]) hx hb dX4_read_36 rfl hl (by decide) rfl (fun ls hl => ?_)
          refine lv_iload_n hx hb dX4_read_37 rfl (lv_at hl 2 rfl) ?_
          refine lv_if_ne (tgt := 47) hx hb dX4_read_38 (by decide) (fun c38 => ?_) (fun c38 => ?_)
          ·
            have d38 : ((k : Nat) : Int) ≠ (0 : Int) := my_ne c38 (nI_toInt (by omega)) (by decide +kernel)
            refine lv_iload_n hx hb dX4_read_47 rfl (lv_at hl 2 rfl) ?_
            refine lv_bipush (v := 7) hx hb dX4_read_48 (by decide +kernel) ?_
            refine lv_icmp_ne (tgt := 57) hx hb dX4_read_50 (by decide) (fun c50 => ?_) (fun c50 => ?_)
            ·
              have d50 : ((k : Nat) : Int) ≠ (7 : Int) := my_ne c50 (nI_toInt (by omega)) (by decide +kernel)
              refine lv_bipush (v := 47) hx hb dX4_read_57 (by decide +kernel) ?_
              refine lv_istore (lv' := [(5, .int 47), (2, .int z_4), (4, .int (nI k_1)), (3, .int (nI k)), (0, .ref xq), (1, .ref xt)]) hx hb dX4_read_59 hl (by decide) rfl (fun ls hl => ?_)
              refine lv_iload hx hb dX4_read_61 (lv_at hl 2 rfl) ?_
              refine lv_aload_n hx hb dX4_read_63 rfl (lv_at hl 4 rfl) ?_
              refine va_get (ci := 4) (v := .int (nI xq_width_4)) (C := RX4) (T := TX4) (N := 2) hx hb hts hi4 hown hK hP 0 rfl rfl 1 (by decide) fl15 (fun _ h9 => h9) rfl dX4_read_64 ?_
              refine lv_icmp_lt (tgt := 80) hx hb dX4_read_67 (by decide) (fun c67 => ?_) (fun c67 => ?_)
              ·
                have d67 : ((k_1 : Nat) : Int) < ((xq_width_4 : Nat) : Int) := my_lt c67 (nI_toInt (by omega)) (nI_toInt (by omega))
                refine lv_iload_n hx hb dX4_read_80 rfl (lv_at hl 1 rfl) ?_
                exact my_retI hx hb hr hlocks hK hS [(xq, .inr (4, [.ref q1, .int (nI xq_width_4)])), (q1, .inl (cJ, 8, .inr (.inl qb_2))), (xt, .inr (5, [.ref t1, .int (nI tz)])), (t1, .inl (cI, 100, .inl tf))] (hP.sub [0, 1, 2, 3] rfl) (hD.sub [0, 1, 2, 3] (by decide) rfl) (⟨xq_width_4, qb_2, rfl, (by first | omega | assumption | trivial | decide +kernel)⟩) dX4_read_81
              ·
                have d67 : ((k_1 : Nat) : Int) ≥ ((xq_width_4 : Nat) : Int) := my_nlt c67 (nI_toInt (by omega)) (nI_toInt (by omega))
                refine lv_aload_n hx hb dX4_read_70 rfl (lv_at hl 5 rfl) ?_
                refine lv_iload_n hx hb dX4_read_71 rfl (lv_at hl 1 rfl) ?_
                refine my_gpI (my_pV (As := [.int z_4]) (rest := []) (ci := 5) ⟨hx, hb, hml, hown, hts⟩ (cwV 1 hts gX4_read_X5_at rfl rfl rfl (by decide +kernel) ⟨Nat.le_of_ble_eq_true rfl, Nat.le_of_ble_eq_true rfl⟩) hN hK hP [2, 3] rfl 2 rfl rfl rfl rfl hl.1 rfl (Nat.le_of_ble_eq_true rfl) dX4_read_72 ⟨Nat.le_of_ble_eq_true rfl, Nat.le_of_ble_eq_true rfl⟩  (k_X5_at l D cI cJ cK xt t1 tz tf z_4 (by first | omega | decide +kernel | assumption))) (fun r hp => ?_)
                obtain _ := hp
                obtain ⟨r_5, rfl⟩ : ∃ z, z = r := ⟨_, rfl⟩
                refine lv_iload hx hb dX4_read_75 (lv_at hl 0 rfl) ?_
                refine lv_icmp_eq (tgt := 82) hx hb dX4_read_77 (by decide) (fun c77 => ?_) (fun c77 => ?_)
                ·
                  have d77 : r_5.toInt = (47 : Int) := my_eq c77 rfl (by decide +kernel)
                  obtain ⟨z_6, ez_6⟩ : ∃ y : Int32, y = z_4 + (1) := ⟨_, rfl⟩
                  try have tz_6 : z_6.toInt = z_4.toInt + (1) := by rw [ez_6]; exact my_addI rfl (by decide +kernel) (by omega) (by omega)
                  refine lv_iinc (v := z_6) (lv' := [(2, .int z_6), (5, .int 47), (4, .int (nI k_1)), (3, .int (nI k)), (0, .ref xq), (1, .ref xt)]) hx hb dX4_read_82 hl (k := 1) rfl (by rw [ez_6]; rfl) (by decide) rfl (fun ls hl => ?_)
                  refine lv_iinc (v := nI (k + 1)) (lv' := [(3, .int (nI (k + 1))), (2, .int z_6), (5, .int 47), (4, .int (nI k_1)), (0, .ref xq), (1, .ref xt)]) hx hb dX4_read_85 hl (k := 3) rfl (my_incN k 1 (by decide +kernel)) (by decide) rfl (fun ls hl => ?_)
                  refine lv_goto (tgt := 4) hx hb dX4_read_88 (by decide) ?_
                  exact ih4  (k + 1) z_6 xq_width_4 qb_2 (by omega) (by first | omega | decide +kernel | assumption) (by first | omega | decide +kernel | assumption) _ _ ls (hP.sub [0, 1, 2, 3] rfl) (hD.sub [0, 1, 2, 3] (by decide) rfl) hS (lv_sub hl [0, 1, 4, 5] rfl)
                ·
                  have d77 : r_5.toInt ≠ (47 : Int) := my_ne c77 rfl (by decide +kernel)
                  refine lv_iload_n hx hb dX4_read_80 rfl (lv_at hl 1 rfl) ?_
                  exact my_retI hx hb hr hlocks hK hS [(xq, .inr (4, [.ref q1, .int (nI xq_width_4)])), (q1, .inl (cJ, 8, .inr (.inl qb_2))), (xt, .inr (5, [.ref t1, .int (nI tz)])), (t1, .inl (cI, 100, .inl tf))] (hP.sub [0, 1, 2, 3] rfl) (hD.sub [0, 1, 2, 3] (by decide) rfl) (⟨xq_width_4, qb_2, rfl, (by first | omega | assumption | trivial | decide +kernel)⟩) dX4_read_81
            ·
              have d50 : ((k : Nat) : Int) = (7 : Int) := my_eq c50 (nI_toInt (by omega)) (by decide +kernel)
              refine lv_iconst (v := (-1)) hx hb dX4_read_53 (by decide +kernel) ?_
              refine lv_goto (tgt := 59) hx hb dX4_read_54 (by decide) ?_
              refine lv_istore (lv' := [(5, .int (-1)), (2, .int z_4), (4, .int (nI k_1)), (3, .int (nI k)), (0, .ref xq), (1, .ref xt)]) hx hb dX4_read_59 hl (by decide) rfl (fun ls hl => ?_)
              refine lv_iload hx hb dX4_read_61 (lv_at hl 2 rfl) ?_
              refine lv_aload_n hx hb dX4_read_63 rfl (lv_at hl 4 rfl) ?_
              refine va_get (ci := 4) (v := .int (nI xq_width_4)) (C := RX4) (T := TX4) (N := 2) hx hb hts hi4 hown hK hP 0 rfl rfl 1 (by decide) fl15 (fun _ h9 => h9) rfl dX4_read_64 ?_
              refine lv_icmp_lt (tgt := 80) hx hb dX4_read_67 (by decide) (fun c67 => ?_) (fun c67 => ?_)
              ·
                have d67 : ((k_1 : Nat) : Int) < ((xq_width_4 : Nat) : Int) := my_lt c67 (nI_toInt (by omega)) (nI_toInt (by omega))
                refine lv_iload_n hx hb dX4_read_80 rfl (lv_at hl 1 rfl) ?_
                exact my_retI hx hb hr hlocks hK hS [(xq, .inr (4, [.ref q1, .int (nI xq_width_4)])), (q1, .inl (cJ, 8, .inr (.inl qb_2))), (xt, .inr (5, [.ref t1, .int (nI tz)])), (t1, .inl (cI, 100, .inl tf))] (hP.sub [0, 1, 2, 3] rfl) (hD.sub [0, 1, 2, 3] (by decide) rfl) (⟨xq_width_4, qb_2, rfl, (by first | omega | assumption | trivial | decide +kernel)⟩) dX4_read_81
              ·
                have d67 : ((k_1 : Nat) : Int) ≥ ((xq_width_4 : Nat) : Int) := my_nlt c67 (nI_toInt (by omega)) (nI_toInt (by omega))
                refine lv_aload_n hx hb dX4_read_70 rfl (lv_at hl 5 rfl) ?_
                refine lv_iload_n hx hb dX4_read_71 rfl (lv_at hl 1 rfl) ?_
                refine my_gpI (my_pV (As := [.int z_4]) (rest := []) (ci := 5) ⟨hx, hb, hml, hown, hts⟩ (cwV 1 hts gX4_read_X5_at rfl rfl rfl (by decide +kernel) ⟨Nat.le_of_ble_eq_true rfl, Nat.le_of_ble_eq_true rfl⟩) hN hK hP [2, 3] rfl 2 rfl rfl rfl rfl hl.1 rfl (Nat.le_of_ble_eq_true rfl) dX4_read_72 ⟨Nat.le_of_ble_eq_true rfl, Nat.le_of_ble_eq_true rfl⟩  (k_X5_at l D cI cJ cK xt t1 tz tf z_4 (by first | omega | decide +kernel | assumption))) (fun r hp => ?_)
                obtain _ := hp
                obtain ⟨r_7, rfl⟩ : ∃ z, z = r := ⟨_, rfl⟩
                refine lv_iload hx hb dX4_read_75 (lv_at hl 0 rfl) ?_
                refine lv_icmp_eq (tgt := 82) hx hb dX4_read_77 (by decide) (fun c77 => ?_) (fun c77 => ?_)
                ·
                  have d77 : r_7.toInt = (-1 : Int) := my_eq c77 rfl (by decide +kernel)
                  obtain ⟨z_8, ez_8⟩ : ∃ y : Int32, y = z_4 + (1) := ⟨_, rfl⟩
                  try have tz_8 : z_8.toInt = z_4.toInt + (1) := by rw [ez_8]; exact my_addI rfl (by decide +kernel) (by omega) (by omega)
                  refine lv_iinc (v := z_8) (lv' := [(2, .int z_8), (5, .int (-1)), (4, .int (nI k_1)), (3, .int (nI k)), (0, .ref xq), (1, .ref xt)]) hx hb dX4_read_82 hl (k := 1) rfl (by rw [ez_8]; rfl) (by decide) rfl (fun ls hl => ?_)
                  refine lv_iinc (v := nI (k + 1)) (lv' := [(3, .int (nI (k + 1))), (2, .int z_8), (5, .int (-1)), (4, .int (nI k_1)), (0, .ref xq), (1, .ref xt)]) hx hb dX4_read_85 hl (k := 3) rfl (my_incN k 1 (by decide +kernel)) (by decide) rfl (fun ls hl => ?_)
                  refine lv_goto (tgt := 4) hx hb dX4_read_88 (by decide) ?_
                  exact ih4  (k + 1) z_8 xq_width_4 qb_2 (by omega) (by first | omega | decide +kernel | assumption) (by first | omega | decide +kernel | assumption) _ _ ls (hP.sub [0, 1, 2, 3] rfl) (hD.sub [0, 1, 2, 3] (by decide) rfl) hS (lv_sub hl [0, 1, 4, 5] rfl)
                ·
                  have d77 : r_7.toInt ≠ (-1 : Int) := my_ne c77 rfl (by decide +kernel)
                  refine lv_iload_n hx hb dX4_read_80 rfl (lv_at hl 1 rfl) ?_
                  exact my_retI hx hb hr hlocks hK hS [(xq, .inr (4, [.ref q1, .int (nI xq_width_4)])), (q1, .inl (cJ, 8, .inr (.inl qb_2))), (xt, .inr (5, [.ref t1, .int (nI tz)])), (t1, .inl (cI, 100, .inl tf))] (hP.sub [0, 1, 2, 3] rfl) (hD.sub [0, 1, 2, 3] (by decide) rfl) (⟨xq_width_4, qb_2, rfl, (by first | omega | assumption | trivial | decide +kernel)⟩) dX4_read_81
          ·
            have d38 : ((k : Nat) : Int) = (0 : Int) := my_eq c38 (nI_toInt (by omega)) (by decide +kernel)
            refine lv_aload_n hx hb dX4_read_41 rfl (lv_at hl 3 rfl) ?_
            refine lv_iload hx hb dX4_read_42 (lv_at hl 1 rfl) ?_
            refine va_put (ci := 4) (v := .int (nI k_1)) (ty := (.int)) (C := RX4) (T := TX4) (N := 2) hx hb hts hi4 tyX4 tyX4_ok nmX4 hown hK hP hD hS 0 rfl rfl 1 (by decide) fl15 (fun _ h9 => h9) rfl (by decide +kernel) rfl rfl (Nat.le_of_ble_eq_true rfl) dX4_read_44 (fun H locs hP hD hS => ?_)
            have hP : va_P D vwCl [(xq, .inr (4, [.ref q1, .int (nI k_1)])), (q1, .inl (cJ, 8, .inr (.inl qb_2))), (xt, .inr (5, [.ref t1, .int (nI tz)])), (t1, .inl (cI, 100, .inl tf))] H := hP
            have hD : va_D A [(xq, .inr (4, [.ref q1, .int (nI k_1)])), (q1, .inl (cJ, 8, .inr (.inl qb_2))), (xt, .inr (5, [.ref t1, .int (nI tz)])), (t1, .inl (cI, 100, .inl tf))] := hD
            refine lv_iload_n hx hb dX4_read_47 rfl (lv_at hl 2 rfl) ?_
            refine lv_bipush (v := 7) hx hb dX4_read_48 (by decide +kernel) ?_
            refine lv_icmp_ne (tgt := 57) hx hb dX4_read_50 (by decide) (fun c50 => ?_) (fun c50 => ?_)
            ·
              have d50 : ((k : Nat) : Int) ≠ (7 : Int) := my_ne c50 (nI_toInt (by omega)) (by decide +kernel)
              refine lv_bipush (v := 47) hx hb dX4_read_57 (by decide +kernel) ?_
              refine lv_istore (lv' := [(5, .int 47), (2, .int z_4), (4, .int (nI k_1)), (3, .int (nI k)), (0, .ref xq), (1, .ref xt)]) hx hb dX4_read_59 hl (by decide) rfl (fun ls hl => ?_)
              refine lv_iload hx hb dX4_read_61 (lv_at hl 2 rfl) ?_
              refine lv_aload_n hx hb dX4_read_63 rfl (lv_at hl 4 rfl) ?_
              refine va_get (ci := 4) (v := .int (nI k_1)) (C := RX4) (T := TX4) (N := 2) hx hb hts hi4 hown hK hP 0 rfl rfl 1 (by decide) fl15 (fun _ h9 => h9) rfl dX4_read_64 ?_
              refine lv_icmp_lt (tgt := 80) hx hb dX4_read_67 (by decide) (fun c67 => ?_) (fun c67 => ?_)
              ·
                have d67 : ((k_1 : Nat) : Int) < ((k_1 : Nat) : Int) := my_lt c67 (nI_toInt (by omega)) (nI_toInt (by omega))
                refine lv_iload_n hx hb dX4_read_80 rfl (lv_at hl 1 rfl) ?_
                exact my_retI hx hb hr hlocks hK hS [(xq, .inr (4, [.ref q1, .int (nI k_1)])), (q1, .inl (cJ, 8, .inr (.inl qb_2))), (xt, .inr (5, [.ref t1, .int (nI tz)])), (t1, .inl (cI, 100, .inl tf))] (hP.sub [0, 1, 2, 3] rfl) (hD.sub [0, 1, 2, 3] (by decide) rfl) (⟨k_1, qb_2, rfl, (by first | omega | assumption | trivial | decide +kernel)⟩) dX4_read_81
              ·
                have d67 : ((k_1 : Nat) : Int) ≥ ((k_1 : Nat) : Int) := my_nlt c67 (nI_toInt (by omega)) (nI_toInt (by omega))
                refine lv_aload_n hx hb dX4_read_70 rfl (lv_at hl 5 rfl) ?_
                refine lv_iload_n hx hb dX4_read_71 rfl (lv_at hl 1 rfl) ?_
                refine my_gpI (my_pV (As := [.int z_4]) (rest := []) (ci := 5) ⟨hx, hb, hml, hown, hts⟩ (cwV 1 hts gX4_read_X5_at rfl rfl rfl (by decide +kernel) ⟨Nat.le_of_ble_eq_true rfl, Nat.le_of_ble_eq_true rfl⟩) hN hK hP [2, 3] rfl 2 rfl rfl rfl rfl hl.1 rfl (Nat.le_of_ble_eq_true rfl) dX4_read_72 ⟨Nat.le_of_ble_eq_true rfl, Nat.le_of_ble_eq_true rfl⟩  (k_X5_at l D cI cJ cK xt t1 tz tf z_4 (by first | omega | decide +kernel | assumption))) (fun r hp => ?_)
                obtain _ := hp
                obtain ⟨r_9, rfl⟩ : ∃ z, z = r := ⟨_, rfl⟩
                refine lv_iload hx hb dX4_read_75 (lv_at hl 0 rfl) ?_
                refine lv_icmp_eq (tgt := 82) hx hb dX4_read_77 (by decide) (fun c77 => ?_) (fun c77 => ?_)
                ·
                  have d77 : r_9.toInt = (47 : Int) := my_eq c77 rfl (by decide +kernel)
                  obtain ⟨z_10, ez_10⟩ : ∃ y : Int32, y = z_4 + (1) := ⟨_, rfl⟩
                  try have tz_10 : z_10.toInt = z_4.toInt + (1) := by rw [ez_10]; exact my_addI rfl (by decide +kernel) (by omega) (by omega)
                  refine lv_iinc (v := z_10) (lv' := [(2, .int z_10), (5, .int 47), (4, .int (nI k_1)), (3, .int (nI k)), (0, .ref xq), (1, .ref xt)]) hx hb dX4_read_82 hl (k := 1) rfl (by rw [ez_10]; rfl) (by decide) rfl (fun ls hl => ?_)
                  refine lv_iinc (v := nI (k + 1)) (lv' := [(3, .int (nI (k + 1))), (2, .int z_10), (5, .int 47), (4, .int (nI k_1)), (0, .ref xq), (1, .ref xt)]) hx hb dX4_read_85 hl (k := 3) rfl (my_incN k 1 (by decide +kernel)) (by decide) rfl (fun ls hl => ?_)
                  refine lv_goto (tgt := 4) hx hb dX4_read_88 (by decide) ?_
                  exact ih4  (k + 1) z_10 k_1 qb_2 (by omega) (by first | omega | decide +kernel | assumption) (by first | omega | decide +kernel | assumption) _ _ ls (hP.sub [0, 1, 2, 3] rfl) (hD.sub [0, 1, 2, 3] (by decide) rfl) hS (lv_sub hl [0, 1, 4, 5] rfl)
                ·
                  have d77 : r_9.toInt ≠ (47 : Int) := my_ne c77 rfl (by decide +kernel)
                  refine lv_iload_n hx hb dX4_read_80 rfl (lv_at hl 1 rfl) ?_
                  exact my_retI hx hb hr hlocks hK hS [(xq, .inr (4, [.ref q1, .int (nI k_1)])), (q1, .inl (cJ, 8, .inr (.inl qb_2))), (xt, .inr (5, [.ref t1, .int (nI tz)])), (t1, .inl (cI, 100, .inl tf))] (hP.sub [0, 1, 2, 3] rfl) (hD.sub [0, 1, 2, 3] (by decide) rfl) (⟨k_1, qb_2, rfl, (by first | omega | assumption | trivial | decide +kernel)⟩) dX4_read_81
            ·
              have d50 : ((k : Nat) : Int) = (7 : Int) := my_eq c50 (nI_toInt (by omega)) (by decide +kernel)
              refine lv_iconst (v := (-1)) hx hb dX4_read_53 (by decide +kernel) ?_
              refine lv_goto (tgt := 59) hx hb dX4_read_54 (by decide) ?_
              refine lv_istore (lv' := [(5, .int (-1)), (2, .int z_4), (4, .int (nI k_1)), (3, .int (nI k)), (0, .ref xq), (1, .ref xt)]) hx hb dX4_read_59 hl (by decide) rfl (fun ls hl => ?_)
              refine lv_iload hx hb dX4_read_61 (lv_at hl 2 rfl) ?_
              refine lv_aload_n hx hb dX4_read_63 rfl (lv_at hl 4 rfl) ?_
              refine va_get (ci := 4) (v := .int (nI k_1)) (C := RX4) (T := TX4) (N := 2) hx hb hts hi4 hown hK hP 0 rfl rfl 1 (by decide) fl15 (fun _ h9 => h9) rfl dX4_read_64 ?_
              refine lv_icmp_lt (tgt := 80) hx hb dX4_read_67 (by decide) (fun c67 => ?_) (fun c67 => ?_)
              ·
                have d67 : ((k_1 : Nat) : Int) < ((k_1 : Nat) : Int) := my_lt c67 (nI_toInt (by omega)) (nI_toInt (by omega))
                refine lv_iload_n hx hb dX4_read_80 rfl (lv_at hl 1 rfl) ?_
                exact my_retI hx hb hr hlocks hK hS [(xq, .inr (4, [.ref q1, .int (nI k_1)])), (q1, .inl (cJ, 8, .inr (.inl qb_2))), (xt, .inr (5, [.ref t1, .int (nI tz)])), (t1, .inl (cI, 100, .inl tf))] (hP.sub [0, 1, 2, 3] rfl) (hD.sub [0, 1, 2, 3] (by decide) rfl) (⟨k_1, qb_2, rfl, (by first | omega | assumption | trivial | decide +kernel)⟩) dX4_read_81
              ·
                have d67 : ((k_1 : Nat) : Int) ≥ ((k_1 : Nat) : Int) := my_nlt c67 (nI_toInt (by omega)) (nI_toInt (by omega))
                refine lv_aload_n hx hb dX4_read_70 rfl (lv_at hl 5 rfl) ?_
                refine lv_iload_n hx hb dX4_read_71 rfl (lv_at hl 1 rfl) ?_
                refine my_gpI (my_pV (As := [.int z_4]) (rest := []) (ci := 5) ⟨hx, hb, hml, hown, hts⟩ (cwV 1 hts gX4_read_X5_at rfl rfl rfl (by decide +kernel) ⟨Nat.le_of_ble_eq_true rfl, Nat.le_of_ble_eq_true rfl⟩) hN hK hP [2, 3] rfl 2 rfl rfl rfl rfl hl.1 rfl (Nat.le_of_ble_eq_true rfl) dX4_read_72 ⟨Nat.le_of_ble_eq_true rfl, Nat.le_of_ble_eq_true rfl⟩  (k_X5_at l D cI cJ cK xt t1 tz tf z_4 (by first | omega | decide +kernel | assumption))) (fun r hp => ?_)
                obtain _ := hp
                obtain ⟨r_11, rfl⟩ : ∃ z, z = r := ⟨_, rfl⟩
                refine lv_iload hx hb dX4_read_75 (lv_at hl 0 rfl) ?_
                refine lv_icmp_eq (tgt := 82) hx hb dX4_read_77 (by decide) (fun c77 => ?_) (fun c77 => ?_)
                ·
                  have d77 : r_11.toInt = (-1 : Int) := my_eq c77 rfl (by decide +kernel)
                  obtain ⟨z_12, ez_12⟩ : ∃ y : Int32, y = z_4 + (1) := ⟨_, rfl⟩
                  try have tz_12 : z_12.toInt = z_4.toInt + (1) := by rw [ez_12]; exact my_addI rfl (by decide +kernel) (by omega) (by omega)
                  refine lv_iinc (v := z_12) (lv' := [(2, .int z_12), (5, .int (-1)), (4, .int (nI k_1)), (3, .int (nI k)), (0, .ref xq), (1, .ref xt)]) hx hb dX4_read_82 hl (k := 1) rfl (by rw [ez_12]; rfl) (by decide) rfl (fun ls hl => ?_)
                  refine lv_iinc (v := nI (k + 1)) (lv' := [(3, .int (nI (k + 1))), (2, .int z_12), (5, .int (-1)), (4, .int (nI k_1)), (0, .ref xq), (1, .ref xt)]) hx hb dX4_read_85 hl (k := 3) rfl (my_incN k 1 (by decide +kernel)) (by decide) rfl (fun ls hl => ?_)
                  refine lv_goto (tgt := 4) hx hb dX4_read_88 (by decide) ?_
                  exact ih4  (k + 1) z_12 k_1 qb_2 (by omega) (by first | omega | decide +kernel | assumption) (by first | omega | decide +kernel | assumption) _ _ ls (hP.sub [0, 1, 2, 3] rfl) (hD.sub [0, 1, 2, 3] (by decide) rfl) hS (lv_sub hl [0, 1, 4, 5] rfl)
                ·
                  have d77 : r_11.toInt ≠ (-1 : Int) := my_ne c77 rfl (by decide +kernel)
                  refine lv_iload_n hx hb dX4_read_80 rfl (lv_at hl 1 rfl) ?_
                  exact my_retI hx hb hr hlocks hK hS [(xq, .inr (4, [.ref q1, .int (nI k_1)])), (q1, .inl (cJ, 8, .inr (.inl qb_2))), (xt, .inr (5, [.ref t1, .int (nI tz)])), (t1, .inl (cI, 100, .inl tf))] (hP.sub [0, 1, 2, 3] rfl) (hD.sub [0, 1, 2, 3] (by decide) rfl) (⟨k_1, qb_2, rfl, (by first | omega | assumption | trivial | decide +kernel)⟩) dX4_read_81
        ·
          have d15 : ((k : Nat) : Int) = (0 : Int) := my_eq c15 (nI_toInt (by omega)) (by decide +kernel)
          refine lv_bipush (v := 11) hx hb dX4_read_18 (by decide +kernel) ?_
          refine lv_goto (tgt := 27) hx hb dX4_read_20 (by decide) ?_
          refine my_goI (wr := []) hP hD hS hA [0, 1, 2, 3] [] rfl rfl (by decide) (by decide) (my_cV (As := [.ref xt, .int y2_4, .int (nI k), .int 11]) (rest := []) (ci := 4) (wc := [(xq, .inr (4, [.ref q1, .int (nI xq_width_4)])), (q1, .inl (cJ, 8, .inr (.inl q1_4))), (xt, .inr (5, [.ref t1, .int (nI tz)])), (t1, .inl (cI, 100, .inl tf))]) ⟨hx, hb, hml, hown, hts⟩ (cwV 4 hts gX4_read_X4_readBits rfl rfl rfl (by decide +kernel) ⟨Nat.le_of_ble_eq_true rfl, Nat.le_of_ble_eq_true rfl⟩) hN hK hP hD [0, 1, 2, 3] rfl (by decide) rfl 0 rfl rfl rfl rfl hl.1 rfl (Nat.le_of_ble_eq_true rfl) dX4_read_27 ⟨Nat.le_of_ble_eq_true rfl, Nat.le_of_ble_eq_true rfl⟩  ((k_X4_readBits l D cI cJ cK xq q1 xt t1 xq_width_4 q1_4 tz tf y2_4 k 11 (by first | omega | decide +kernel | assumption) (by first | omega | decide +kernel | assumption) (by first | omega | decide +kernel | assumption) (by first | omega | decide +kernel | assumption)) _)) (fun r u H locs hp hP hD hS => ?_)
          obtain ⟨k_13, qb_14, rfl, rfl, hk_15⟩ := hp
          have hP : va_P D vwCl [(xq, .inr (4, [.ref q1, .int (nI xq_width_4)])), (q1, .inl (cJ, 8, .inr (.inl qb_14))), (xt, .inr (5, [.ref t1, .int (nI tz)])), (t1, .inl (cI, 100, .inl tf))] H := hP
          have hD : va_D A [(xq, .inr (4, [.ref q1, .int (nI xq_width_4)])), (q1, .inl (cJ, 8, .inr (.inl qb_14))), (xt, .inr (5, [.ref t1, .int (nI tz)])), (t1, .inl (cI, 100, .inl tf))] := hD
          refine lv_istore (lv' := [(4, .int (nI k_13)), (3, .int (nI k)), (2, .int y2_4), (0, .ref xq), (1, .ref xt)]) hx hb dX4_read_30 hl (by decide) rfl (fun ls hl => ?_)
          refine lv_iload_n hx hb dX4_read_32 rfl (lv_at hl 2 rfl) ?_
          refine lv_iload hx hb dX4_read_33 (lv_at hl 0 rfl) ?_
          refine lv_iadd hx hb dX4_read_35 ?_
          refine lv_topi (fun z_16 ez_16 => ?_)
          try have tz_16 : z_16.toInt = y2_4.toInt + ((k_13 : Nat) : Int) := by rw [ez_16]; exact my_addI rfl (nI_toInt (by omega)) (by omega) (by omega)
          refine lv_istore_n (lv' := [(2, .int z_16), (4, .int (nI k_13)), (3, .int (nI k)), (0, .ref xq), (1, .ref xt)]) hx hb dX4_read_36 rfl hl (by decide) rfl (fun ls hl => ?_)
          refine lv_iload_n hx hb dX4_read_37 rfl (lv_at hl 2 rfl) ?_
          refine lv_if_ne (tgt := 47) hx hb dX4_read_38 (by decide) (fun c38 => ?_) (fun c38 => ?_)
          ·
            have d38 : ((k : Nat) : Int) ≠ (0 : Int) := my_ne c38 (nI_toInt (by omega)) (by decide +kernel)
            refine lv_iload_n hx hb dX4_read_47 rfl (lv_at hl 2 rfl) ?_
            refine lv_bipush (v := 7) hx hb dX4_read_48 (by decide +kernel) ?_
            refine lv_icmp_ne (tgt := 57) hx hb dX4_read_50 (by decide) (fun c50 => ?_) (fun c50 => ?_)
            ·
              have d50 : ((k : Nat) : Int) ≠ (7 : Int) := my_ne c50 (nI_toInt (by omega)) (by decide +kernel)
              refine lv_bipush (v := 47) hx hb dX4_read_57 (by decide +kernel) ?_
              refine lv_istore (lv' := [(5, .int 47), (2, .int z_16), (4, .int (nI k_13)), (3, .int (nI k)), (0, .ref xq), (1, .ref xt)]) hx hb dX4_read_59 hl (by decide) rfl (fun ls hl => ?_)
              refine lv_iload hx hb dX4_read_61 (lv_at hl 2 rfl) ?_
              refine lv_aload_n hx hb dX4_read_63 rfl (lv_at hl 4 rfl) ?_
              refine va_get (ci := 4) (v := .int (nI xq_width_4)) (C := RX4) (T := TX4) (N := 2) hx hb hts hi4 hown hK hP 0 rfl rfl 1 (by decide) fl15 (fun _ h9 => h9) rfl dX4_read_64 ?_
              refine lv_icmp_lt (tgt := 80) hx hb dX4_read_67 (by decide) (fun c67 => ?_) (fun c67 => ?_)
              ·
                have d67 : ((k_13 : Nat) : Int) < ((xq_width_4 : Nat) : Int) := my_lt c67 (nI_toInt (by omega)) (nI_toInt (by omega))
                refine lv_iload_n hx hb dX4_read_80 rfl (lv_at hl 1 rfl) ?_
                exact my_retI hx hb hr hlocks hK hS [(xq, .inr (4, [.ref q1, .int (nI xq_width_4)])), (q1, .inl (cJ, 8, .inr (.inl qb_14))), (xt, .inr (5, [.ref t1, .int (nI tz)])), (t1, .inl (cI, 100, .inl tf))] (hP.sub [0, 1, 2, 3] rfl) (hD.sub [0, 1, 2, 3] (by decide) rfl) (⟨xq_width_4, qb_14, rfl, (by first | omega | assumption | trivial | decide +kernel)⟩) dX4_read_81
              ·
                have d67 : ((k_13 : Nat) : Int) ≥ ((xq_width_4 : Nat) : Int) := my_nlt c67 (nI_toInt (by omega)) (nI_toInt (by omega))
                refine lv_aload_n hx hb dX4_read_70 rfl (lv_at hl 5 rfl) ?_
                refine lv_iload_n hx hb dX4_read_71 rfl (lv_at hl 1 rfl) ?_
                refine my_gpI (my_pV (As := [.int z_16]) (rest := []) (ci := 5) ⟨hx, hb, hml, hown, hts⟩ (cwV 1 hts gX4_read_X5_at rfl rfl rfl (by decide +kernel) ⟨Nat.le_of_ble_eq_true rfl, Nat.le_of_ble_eq_true rfl⟩) hN hK hP [2, 3] rfl 2 rfl rfl rfl rfl hl.1 rfl (Nat.le_of_ble_eq_true rfl) dX4_read_72 ⟨Nat.le_of_ble_eq_true rfl, Nat.le_of_ble_eq_true rfl⟩  (k_X5_at l D cI cJ cK xt t1 tz tf z_16 (by first | omega | decide +kernel | assumption))) (fun r hp => ?_)
                obtain _ := hp
                obtain ⟨r_17, rfl⟩ : ∃ z, z = r := ⟨_, rfl⟩
                refine lv_iload hx hb dX4_read_75 (lv_at hl 0 rfl) ?_
                refine lv_icmp_eq (tgt := 82) hx hb dX4_read_77 (by decide) (fun c77 => ?_) (fun c77 => ?_)
                ·
                  have d77 : r_17.toInt = (47 : Int) := my_eq c77 rfl (by decide +kernel)
                  obtain ⟨z_18, ez_18⟩ : ∃ y : Int32, y = z_16 + (1) := ⟨_, rfl⟩
                  try have tz_18 : z_18.toInt = z_16.toInt + (1) := by rw [ez_18]; exact my_addI rfl (by decide +kernel) (by omega) (by omega)
                  refine lv_iinc (v := z_18) (lv' := [(2, .int z_18), (5, .int 47), (4, .int (nI k_13)), (3, .int (nI k)), (0, .ref xq), (1, .ref xt)]) hx hb dX4_read_82 hl (k := 1) rfl (by rw [ez_18]; rfl) (by decide) rfl (fun ls hl => ?_)
                  refine lv_iinc (v := nI (k + 1)) (lv' := [(3, .int (nI (k + 1))), (2, .int z_18), (5, .int 47), (4, .int (nI k_13)), (0, .ref xq), (1, .ref xt)]) hx hb dX4_read_85 hl (k := 3) rfl (my_incN k 1 (by decide +kernel)) (by decide) rfl (fun ls hl => ?_)
                  refine lv_goto (tgt := 4) hx hb dX4_read_88 (by decide) ?_
                  exact ih4  (k + 1) z_18 xq_width_4 qb_14 (by omega) (by first | omega | decide +kernel | assumption) (by first | omega | decide +kernel | assumption) _ _ ls (hP.sub [0, 1, 2, 3] rfl) (hD.sub [0, 1, 2, 3] (by decide) rfl) hS (lv_sub hl [0, 1, 4, 5] rfl)
                ·
                  have d77 : r_17.toInt ≠ (47 : Int) := my_ne c77 rfl (by decide +kernel)
                  refine lv_iload_n hx hb dX4_read_80 rfl (lv_at hl 1 rfl) ?_
                  exact my_retI hx hb hr hlocks hK hS [(xq, .inr (4, [.ref q1, .int (nI xq_width_4)])), (q1, .inl (cJ, 8, .inr (.inl qb_14))), (xt, .inr (5, [.ref t1, .int (nI tz)])), (t1, .inl (cI, 100, .inl tf))] (hP.sub [0, 1, 2, 3] rfl) (hD.sub [0, 1, 2, 3] (by decide) rfl) (⟨xq_width_4, qb_14, rfl, (by first | omega | assumption | trivial | decide +kernel)⟩) dX4_read_81
            ·
              have d50 : ((k : Nat) : Int) = (7 : Int) := my_eq c50 (nI_toInt (by omega)) (by decide +kernel)
              refine lv_iconst (v := (-1)) hx hb dX4_read_53 (by decide +kernel) ?_
              refine lv_goto (tgt := 59) hx hb dX4_read_54 (by decide) ?_
              refine lv_istore (lv' := [(5, .int (-1)), (2, .int z_16), (4, .int (nI k_13)), (3, .int (nI k)), (0, .ref xq), (1, .ref xt)]) hx hb dX4_read_59 hl (by decide) rfl (fun ls hl => ?_)
              refine lv_iload hx hb dX4_read_61 (lv_at hl 2 rfl) ?_
              refine lv_aload_n hx hb dX4_read_63 rfl (lv_at hl 4 rfl) ?_
              refine va_get (ci := 4) (v := .int (nI xq_width_4)) (C := RX4) (T := TX4) (N := 2) hx hb hts hi4 hown hK hP 0 rfl rfl 1 (by decide) fl15 (fun _ h9 => h9) rfl dX4_read_64 ?_
              refine lv_icmp_lt (tgt := 80) hx hb dX4_read_67 (by decide) (fun c67 => ?_) (fun c67 => ?_)
              ·
                have d67 : ((k_13 : Nat) : Int) < ((xq_width_4 : Nat) : Int) := my_lt c67 (nI_toInt (by omega)) (nI_toInt (by omega))
                refine lv_iload_n hx hb dX4_read_80 rfl (lv_at hl 1 rfl) ?_
                exact my_retI hx hb hr hlocks hK hS [(xq, .inr (4, [.ref q1, .int (nI xq_width_4)])), (q1, .inl (cJ, 8, .inr (.inl qb_14))), (xt, .inr (5, [.ref t1, .int (nI tz)])), (t1, .inl (cI, 100, .inl tf))] (hP.sub [0, 1, 2, 3] rfl) (hD.sub [0, 1, 2, 3] (by decide) rfl) (⟨xq_width_4, qb_14, rfl, (by first | omega | assumption | trivial | decide +kernel)⟩) dX4_read_81
              ·
                have d67 : ((k_13 : Nat) : Int) ≥ ((xq_width_4 : Nat) : Int) := my_nlt c67 (nI_toInt (by omega)) (nI_toInt (by omega))
                refine lv_aload_n hx hb dX4_read_70 rfl (lv_at hl 5 rfl) ?_
                refine lv_iload_n hx hb dX4_read_71 rfl (lv_at hl 1 rfl) ?_
                refine my_gpI (my_pV (As := [.int z_16]) (rest := []) (ci := 5) ⟨hx, hb, hml, hown, hts⟩ (cwV 1 hts gX4_read_X5_at rfl rfl rfl (by decide +kernel) ⟨Nat.le_of_ble_eq_true rfl, Nat.le_of_ble_eq_true rfl⟩) hN hK hP [2, 3] rfl 2 rfl rfl rfl rfl hl.1 rfl (Nat.le_of_ble_eq_true rfl) dX4_read_72 ⟨Nat.le_of_ble_eq_true rfl, Nat.le_of_ble_eq_true rfl⟩  (k_X5_at l D cI cJ cK xt t1 tz tf z_16 (by first | omega | decide +kernel | assumption))) (fun r hp => ?_)
                obtain _ := hp
                obtain ⟨r_19, rfl⟩ : ∃ z, z = r := ⟨_, rfl⟩
                refine lv_iload hx hb dX4_read_75 (lv_at hl 0 rfl) ?_
                refine lv_icmp_eq (tgt := 82) hx hb dX4_read_77 (by decide) (fun c77 => ?_) (fun c77 => ?_)
                ·
                  have d77 : r_19.toInt = (-1 : Int) := my_eq c77 rfl (by decide +kernel)
                  obtain ⟨z_20, ez_20⟩ : ∃ y : Int32, y = z_16 + (1) := ⟨_, rfl⟩
                  try have tz_20 : z_20.toInt = z_16.toInt + (1) := by rw [ez_20]; exact my_addI rfl (by decide +kernel) (by omega) (by omega)
                  refine lv_iinc (v := z_20) (lv' := [(2, .int z_20), (5, .int (-1)), (4, .int (nI k_13)), (3, .int (nI k)), (0, .ref xq), (1, .ref xt)]) hx hb dX4_read_82 hl (k := 1) rfl (by rw [ez_20]; rfl) (by decide) rfl (fun ls hl => ?_)
                  refine lv_iinc (v := nI (k + 1)) (lv' := [(3, .int (nI (k + 1))), (2, .int z_20), (5, .int (-1)), (4, .int (nI k_13)), (0, .ref xq), (1, .ref xt)]) hx hb dX4_read_85 hl (k := 3) rfl (my_incN k 1 (by decide +kernel)) (by decide) rfl (fun ls hl => ?_)
                  refine lv_goto (tgt := 4) hx hb dX4_read_88 (by decide) ?_
                  exact ih4  (k + 1) z_20 xq_width_4 qb_14 (by omega) (by first | omega | decide +kernel | assumption) (by first | omega | decide +kernel | assumption) _ _ ls (hP.sub [0, 1, 2, 3] rfl) (hD.sub [0, 1, 2, 3] (by decide) rfl) hS (lv_sub hl [0, 1, 4, 5] rfl)
                ·
                  have d77 : r_19.toInt ≠ (-1 : Int) := my_ne c77 rfl (by decide +kernel)
                  refine lv_iload_n hx hb dX4_read_80 rfl (lv_at hl 1 rfl) ?_
                  exact my_retI hx hb hr hlocks hK hS [(xq, .inr (4, [.ref q1, .int (nI xq_width_4)])), (q1, .inl (cJ, 8, .inr (.inl qb_14))), (xt, .inr (5, [.ref t1, .int (nI tz)])), (t1, .inl (cI, 100, .inl tf))] (hP.sub [0, 1, 2, 3] rfl) (hD.sub [0, 1, 2, 3] (by decide) rfl) (⟨xq_width_4, qb_14, rfl, (by first | omega | assumption | trivial | decide +kernel)⟩) dX4_read_81
          ·
            have d38 : ((k : Nat) : Int) = (0 : Int) := my_eq c38 (nI_toInt (by omega)) (by decide +kernel)
            refine lv_aload_n hx hb dX4_read_41 rfl (lv_at hl 3 rfl) ?_
            refine lv_iload hx hb dX4_read_42 (lv_at hl 1 rfl) ?_
            refine va_put (ci := 4) (v := .int (nI k_13)) (ty := (.int)) (C := RX4) (T := TX4) (N := 2) hx hb hts hi4 tyX4 tyX4_ok nmX4 hown hK hP hD hS 0 rfl rfl 1 (by decide) fl15 (fun _ h9 => h9) rfl (by decide +kernel) rfl rfl (Nat.le_of_ble_eq_true rfl) dX4_read_44 (fun H locs hP hD hS => ?_)
            have hP : va_P D vwCl [(xq, .inr (4, [.ref q1, .int (nI k_13)])), (q1, .inl (cJ, 8, .inr (.inl qb_14))), (xt, .inr (5, [.ref t1, .int (nI tz)])), (t1, .inl (cI, 100, .inl tf))] H := hP
            have hD : va_D A [(xq, .inr (4, [.ref q1, .int (nI k_13)])), (q1, .inl (cJ, 8, .inr (.inl qb_14))), (xt, .inr (5, [.ref t1, .int (nI tz)])), (t1, .inl (cI, 100, .inl tf))] := hD
            refine lv_iload_n hx hb dX4_read_47 rfl (lv_at hl 2 rfl) ?_
            refine lv_bipush (v := 7) hx hb dX4_read_48 (by decide +kernel) ?_
            refine lv_icmp_ne (tgt := 57) hx hb dX4_read_50 (by decide) (fun c50 => ?_) (fun c50 => ?_)
            ·
              have d50 : ((k : Nat) : Int) ≠ (7 : Int) := my_ne c50 (nI_toInt (by omega)) (by decide +kernel)
              refine lv_bipush (v := 47) hx hb dX4_read_57 (by decide +kernel) ?_
              refine lv_istore (lv' := [(5, .int 47), (2, .int z_16), (4, .int (nI k_13)), (3, .int (nI k)), (0, .ref xq), (1, .ref xt)]) hx hb dX4_read_59 hl (by decide) rfl (fun ls hl => ?_)
              refine lv_iload hx hb dX4_read_61 (lv_at hl 2 rfl) ?_
              refine lv_aload_n hx hb dX4_read_63 rfl (lv_at hl 4 rfl) ?_
              refine va_get (ci := 4) (v := .int (nI k_13)) (C := RX4) (T := TX4) (N := 2) hx hb hts hi4 hown hK hP 0 rfl rfl 1 (by decide) fl15 (fun _ h9 => h9) rfl dX4_read_64 ?_
              refine lv_icmp_lt (tgt := 80) hx hb dX4_read_67 (by decide) (fun c67 => ?_) (fun c67 => ?_)
              ·
                have d67 : ((k_13 : Nat) : Int) < ((k_13 : Nat) : Int) := my_lt c67 (nI_toInt (by omega)) (nI_toInt (by omega))
                refine lv_iload_n hx hb dX4_read_80 rfl (lv_at hl 1 rfl) ?_
                exact my_retI hx hb hr hlocks hK hS [(xq, .inr (4, [.ref q1, .int (nI k_13)])), (q1, .inl (cJ, 8, .inr (.inl qb_14))), (xt, .inr (5, [.ref t1, .int (nI tz)])), (t1, .inl (cI, 100, .inl tf))] (hP.sub [0, 1, 2, 3] rfl) (hD.sub [0, 1, 2, 3] (by decide) rfl) (⟨k_13, qb_14, rfl, (by first | omega | assumption | trivial | decide +kernel)⟩) dX4_read_81
              ·
                have d67 : ((k_13 : Nat) : Int) ≥ ((k_13 : Nat) : Int) := my_nlt c67 (nI_toInt (by omega)) (nI_toInt (by omega))
                refine lv_aload_n hx hb dX4_read_70 rfl (lv_at hl 5 rfl) ?_
                refine lv_iload_n hx hb dX4_read_71 rfl (lv_at hl 1 rfl) ?_
                refine my_gpI (my_pV (As := [.int z_16]) (rest := []) (ci := 5) ⟨hx, hb, hml, hown, hts⟩ (cwV 1 hts gX4_read_X5_at rfl rfl rfl (by decide +kernel) ⟨Nat.le_of_ble_eq_true rfl, Nat.le_of_ble_eq_true rfl⟩) hN hK hP [2, 3] rfl 2 rfl rfl rfl rfl hl.1 rfl (Nat.le_of_ble_eq_true rfl) dX4_read_72 ⟨Nat.le_of_ble_eq_true rfl, Nat.le_of_ble_eq_true rfl⟩  (k_X5_at l D cI cJ cK xt t1 tz tf z_16 (by first | omega | decide +kernel | assumption))) (fun r hp => ?_)
                obtain _ := hp
                obtain ⟨r_21, rfl⟩ : ∃ z, z = r := ⟨_, rfl⟩
                refine lv_iload hx hb dX4_read_75 (lv_at hl 0 rfl) ?_
                refine lv_icmp_eq (tgt := 82) hx hb dX4_read_77 (by decide) (fun c77 => ?_) (fun c77 => ?_)
                ·
                  have d77 : r_21.toInt = (47 : Int) := my_eq c77 rfl (by decide +kernel)
                  obtain ⟨z_22, ez_22⟩ : ∃ y : Int32, y = z_16 + (1) := ⟨_, rfl⟩
                  try have tz_22 : z_22.toInt = z_16.toInt + (1) := by rw [ez_22]; exact my_addI rfl (by decide +kernel) (by omega) (by omega)
                  refine lv_iinc (v := z_22) (lv' := [(2, .int z_22), (5, .int 47), (4, .int (nI k_13)), (3, .int (nI k)), (0, .ref xq), (1, .ref xt)]) hx hb dX4_read_82 hl (k := 1) rfl (by rw [ez_22]; rfl) (by decide) rfl (fun ls hl => ?_)
                  refine lv_iinc (v := nI (k + 1)) (lv' := [(3, .int (nI (k + 1))), (2, .int z_22), (5, .int 47), (4, .int (nI k_13)), (0, .ref xq), (1, .ref xt)]) hx hb dX4_read_85 hl (k := 3) rfl (my_incN k 1 (by decide +kernel)) (by decide) rfl (fun ls hl => ?_)
                  refine lv_goto (tgt := 4) hx hb dX4_read_88 (by decide) ?_
                  exact ih4  (k + 1) z_22 k_13 qb_14 (by omega) (by first | omega | decide +kernel | assumption) (by first | omega | decide +kernel | assumption) _ _ ls (hP.sub [0, 1, 2, 3] rfl) (hD.sub [0, 1, 2, 3] (by decide) rfl) hS (lv_sub hl [0, 1, 4, 5] rfl)
                ·
                  have d77 : r_21.toInt ≠ (47 : Int) := my_ne c77 rfl (by decide +kernel)
                  refine lv_iload_n hx hb dX4_read_80 rfl (lv_at hl 1 rfl) ?_
                  exact my_retI hx hb hr hlocks hK hS [(xq, .inr (4, [.ref q1, .int (nI k_13)])), (q1, .inl (cJ, 8, .inr (.inl qb_14))), (xt, .inr (5, [.ref t1, .int (nI tz)])), (t1, .inl (cI, 100, .inl tf))] (hP.sub [0, 1, 2, 3] rfl) (hD.sub [0, 1, 2, 3] (by decide) rfl) (⟨k_13, qb_14, rfl, (by first | omega | assumption | trivial | decide +kernel)⟩) dX4_read_81
            ·
              have d50 : ((k : Nat) : Int) = (7 : Int) := my_eq c50 (nI_toInt (by omega)) (by decide +kernel)
              refine lv_iconst (v := (-1)) hx hb dX4_read_53 (by decide +kernel) ?_
              refine lv_goto (tgt := 59) hx hb dX4_read_54 (by decide) ?_
              refine lv_istore (lv' := [(5, .int (-1)), (2, .int z_16), (4, .int (nI k_13)), (3, .int (nI k)), (0, .ref xq), (1, .ref xt)]) hx hb dX4_read_59 hl (by decide) rfl (fun ls hl => ?_)
              refine lv_iload hx hb dX4_read_61 (lv_at hl 2 rfl) ?_
              refine lv_aload_n hx hb dX4_read_63 rfl (lv_at hl 4 rfl) ?_
              refine va_get (ci := 4) (v := .int (nI k_13)) (C := RX4) (T := TX4) (N := 2) hx hb hts hi4 hown hK hP 0 rfl rfl 1 (by decide) fl15 (fun _ h9 => h9) rfl dX4_read_64 ?_
              refine lv_icmp_lt (tgt := 80) hx hb dX4_read_67 (by decide) (fun c67 => ?_) (fun c67 => ?_)
              ·
                have d67 : ((k_13 : Nat) : Int) < ((k_13 : Nat) : Int) := my_lt c67 (nI_toInt (by omega)) (nI_toInt (by omega))
                refine lv_iload_n hx hb dX4_read_80 rfl (lv_at hl 1 rfl) ?_
                exact my_retI hx hb hr hlocks hK hS [(xq, .inr (4, [.ref q1, .int (nI k_13)])), (q1, .inl (cJ, 8, .inr (.inl qb_14))), (xt, .inr (5, [.ref t1, .int (nI tz)])), (t1, .inl (cI, 100, .inl tf))] (hP.sub [0, 1, 2, 3] rfl) (hD.sub [0, 1, 2, 3] (by decide) rfl) (⟨k_13, qb_14, rfl, (by first | omega | assumption | trivial | decide +kernel)⟩) dX4_read_81
              ·
                have d67 : ((k_13 : Nat) : Int) ≥ ((k_13 : Nat) : Int) := my_nlt c67 (nI_toInt (by omega)) (nI_toInt (by omega))
                refine lv_aload_n hx hb dX4_read_70 rfl (lv_at hl 5 rfl) ?_
                refine lv_iload_n hx hb dX4_read_71 rfl (lv_at hl 1 rfl) ?_
                refine my_gpI (my_pV (As := [.int z_16]) (rest := []) (ci := 5) ⟨hx, hb, hml, hown, hts⟩ (cwV 1 hts gX4_read_X5_at rfl rfl rfl (by decide +kernel) ⟨Nat.le_of_ble_eq_true rfl, Nat.le_of_ble_eq_true rfl⟩) hN hK hP [2, 3] rfl 2 rfl rfl rfl rfl hl.1 rfl (Nat.le_of_ble_eq_true rfl) dX4_read_72 ⟨Nat.le_of_ble_eq_true rfl, Nat.le_of_ble_eq_true rfl⟩  (k_X5_at l D cI cJ cK xt t1 tz tf z_16 (by first | omega | decide +kernel | assumption))) (fun r hp => ?_)
                obtain _ := hp
                obtain ⟨r_23, rfl⟩ : ∃ z, z = r := ⟨_, rfl⟩
                refine lv_iload hx hb dX4_read_75 (lv_at hl 0 rfl) ?_
                refine lv_icmp_eq (tgt := 82) hx hb dX4_read_77 (by decide) (fun c77 => ?_) (fun c77 => ?_)
                ·
                  have d77 : r_23.toInt = (-1 : Int) := my_eq c77 rfl (by decide +kernel)
                  obtain ⟨z_24, ez_24⟩ : ∃ y : Int32, y = z_16 + (1) := ⟨_, rfl⟩
                  try have tz_24 : z_24.toInt = z_16.toInt + (1) := by rw [ez_24]; exact my_addI rfl (by decide +kernel) (by omega) (by omega)
                  refine lv_iinc (v := z_24) (lv' := [(2, .int z_24), (5, .int (-1)), (4, .int (nI k_13)), (3, .int (nI k)), (0, .ref xq), (1, .ref xt)]) hx hb dX4_read_82 hl (k := 1) rfl (by rw [ez_24]; rfl) (by decide) rfl (fun ls hl => ?_)
                  refine lv_iinc (v := nI (k + 1)) (lv' := [(3, .int (nI (k + 1))), (2, .int z_24), (5, .int (-1)), (4, .int (nI k_13)), (0, .ref xq), (1, .ref xt)]) hx hb dX4_read_85 hl (k := 3) rfl (my_incN k 1 (by decide +kernel)) (by decide) rfl (fun ls hl => ?_)
                  refine lv_goto (tgt := 4) hx hb dX4_read_88 (by decide) ?_
                  exact ih4  (k + 1) z_24 k_13 qb_14 (by omega) (by first | omega | decide +kernel | assumption) (by first | omega | decide +kernel | assumption) _ _ ls (hP.sub [0, 1, 2, 3] rfl) (hD.sub [0, 1, 2, 3] (by decide) rfl) hS (lv_sub hl [0, 1, 4, 5] rfl)
                ·
                  have d77 : r_23.toInt ≠ (-1 : Int) := my_ne c77 rfl (by decide +kernel)
                  refine lv_iload_n hx hb dX4_read_80 rfl (lv_at hl 1 rfl) ?_
                  exact my_retI hx hb hr hlocks hK hS [(xq, .inr (4, [.ref q1, .int (nI k_13)])), (q1, .inl (cJ, 8, .inr (.inl qb_14))), (xt, .inr (5, [.ref t1, .int (nI tz)])), (t1, .inl (cI, 100, .inl tf))] (hP.sub [0, 1, 2, 3] rfl) (hD.sub [0, 1, 2, 3] (by decide) rfl) (⟨k_13, qb_14, rfl, (by first | omega | assumption | trivial | decide +kernel)⟩) dX4_read_81
  have ec_25 : (0 : Int32).toInt = 0 := by decide +kernel
  exact loop4 ((8 - 0) + 1) 0 (0 : Int32) qw qb (Nat.lt_succ_self _) (by first | omega | decide +kernel | assumption) (by first | omega | decide +kernel | assumption) _ _ ls (hP.sub [0, 1, 2, 3] rfl) (hD.sub [0, 1, 2, 3] (by decide) rfl) hS (lv_sub hl [0, 1, 2, 3] rfl)
