abbrev wl_k_J7_fill_53178 (cI cJ cK : ClassId) (h1 : Nat) (v0_ : Nat → Int32) : va_W := [(h1, .inl (cI, 512, .inl v0_))]
set_option maxHeartbeats 4000000 in
set_option maxRecDepth 100000 in
theorem k_J7_fill_53178 (l : Launch) (D : va_G) (cI cJ cK : ClassId) (h1 : Nat) (f : Nat → Int32) : ctV l yJ7_fill_53178 wsJ7_fill_53178 ({ frames := 0, cells := 0, slots := 0, locals := 0 } : Room) D (tyIJ cI cJ cK) [.ref h1, .int 0] (wl_k_J7_fill_53178 cI cJ cK h1 f) (fun (u : va_W) => ∃ (f' : Nat → Int32), u = (wl_k_J7_fill_53178 cI cJ cK h1 f') ∧ (∀ j, j < 512 → f' j = 0)) := by
  refine ctV.of (cc := cJ7_fill_53178) (maxL := 4) (ret := none) (by decide) rfl (Nat.le_of_ble_eq_true rfl) ?_
  intro p e s m below meth c ls A hx hb hr hts hown hml hlocks hname hA hK hN hP hD hS hl
  have hl : lv_has ls 4 [(0, .ref h1), (1, .int 0)] := hl
  have hown : s.vm.findClass RJ7 = some m.cls := hown
  refine lv_iconst (v := 0) hx hb dJ7_fill_53178_0 (by decide +kernel) ?_
  refine lv_istore_n (lv' := [(2, .int 0), (0, .ref h1), (1, .int 0)]) hx hb dJ7_fill_53178_1 rfl hl (by decide) rfl (fun ls hl => ?_)
  refine lv_aload_n hx hb dJ7_fill_53178_2 rfl (lv_at hl 1 rfl) ?_
  refine va_alen (v := 512) hx hb hK hP 0 0 rfl rfl rfl dJ7_fill_53178_3 ?_
  refine lv_istore_n (lv' := [(3, .int 512), (2, .int 0), (0, .ref h1), (1, .int 0)]) hx hb dJ7_fill_53178_4 rfl hl (by decide) rfl (fun ls hl => ?_)
  have loop5 : ∀ (n9 : Nat) (k : Nat) (h1_5 : Nat → Int32), 512 - k < n9 → (k ≤ 512) → (∀ j, j < k → h1_5 j = 0) → ∀ (H : Heap) (locs : List Loc) (ls : Array Slot), va_P D vwCl (wl_k_J7_fill_53178 cI cJ cK h1 h1_5) H → va_D A (wl_k_J7_fill_53178 cI cJ cK h1 h1_5) → va_S A s.heap H locs → lv_has ls 4 [(3, .int 512), (2, .int (nI k)), (0, .ref h1), (1, .int 0)] → W p l e ({ frames := 0, cells := 0, slots := 0, locals := 0 } : Room) s m [.ref h1, .int 0].toArray below meth c H locs 0 0 (MQ below (va_Qv (fun (u : va_W) => ∃ (f' : Nat → Int32), u = (wl_k_J7_fill_53178 cI cJ cK h1 f') ∧ (∀ j, j < 512 → f' j = 0)) (my_B D (tyIJ cI cJ cK) A) A) [.ref h1, .int 0].toArray s 0 0 A) (F0 m 5 ls []) := by
    intro n9
    induction n9 with
    | zero =>
      intro k h1_5 hn9
      exact absurd hn9 (Nat.not_lt_zero _)
    | succ n9 ih5 =>
      intro k h1_5 hn9 hk_k hz0 H locs ls hP hD hS hl
      refine lv_iload_n hx hb dJ7_fill_53178_5 rfl (lv_at hl 1 rfl) ?_
      refine lv_iload_n hx hb dJ7_fill_53178_6 rfl (lv_at hl 0 rfl) ?_
      refine lv_icmp_ge (tgt := 20) hx hb dJ7_fill_53178_7 (by decide) (fun c7 => ?_) (fun c7 => ?_)
      ·
        have d7 : ((k : Nat) : Int) ≥ (512 : Int) := my_ge c7 (nI_toInt (by omega)) (by decide +kernel)
        exact my_retV hx hb hr hlocks hK hS (wl_k_J7_fill_53178 cI cJ cK h1 h1_5) hP hD (⟨h1_5, rfl, (fun j h => hz0 j (by omega))⟩) dJ7_fill_53178_20
      ·
        have d7 : ((k : Nat) : Int) < (512 : Int) := my_nge c7 (nI_toInt (by omega)) (by decide +kernel)
        refine lv_aload_n hx hb dJ7_fill_53178_10 rfl (lv_at hl 2 rfl) ?_
        refine lv_iload_n hx hb dJ7_fill_53178_11 rfl (lv_at hl 1 rfl) ?_
        refine lv_iload_n hx hb dJ7_fill_53178_12 rfl (lv_at hl 3 rfl) ?_
        refine va_iast hx hb hK hP hD hS 0 0 rfl rfl (vp_in_nI (by omega) (by omega)) dJ7_fill_53178_13 (fun H locs hP hD hS => ?_)
        obtain ⟨g_1, eg_1⟩ : ∃ g : Nat → Int32, g = upd h1_5 k 0 := ⟨_, rfl⟩
        have eU : upd h1_5 (nI k : Int32).toNatClampNeg 0 = g_1 := by rw [eg_1, show (nI k : Int32).toNatClampNeg = k from nI_clamp (by omega)]
        rw [eU] at hP hD
        have hP : va_P D vwCl (wl_k_J7_fill_53178 cI cJ cK h1 g_1) H := hP
        have hD : va_D A (wl_k_J7_fill_53178 cI cJ cK h1 g_1) := hD
        refine lv_iinc (v := nI (k + 1)) (lv' := [(2, .int (nI (k + 1))), (3, .int 512), (0, .ref h1), (1, .int 0)]) hx hb dJ7_fill_53178_14 hl (k := 1) rfl (my_incN k 1 (by decide +kernel)) (by decide) rfl (fun ls hl => ?_)
        refine lv_goto (tgt := 5) hx hb dJ7_fill_53178_17 (by decide) ?_
        exact ih5  (k + 1) g_1 (by omega) (by first | assumption | omega | decide +kernel) (nv_step (F := fun _ => 0) (by assumption) rfl hz0) _ _ ls hP hD hS (lv_sub hl [1, 0, 2, 3] rfl)
  exact loop5 ((512 - 0) + 1) 0 f (Nat.lt_succ_self _) (by first | assumption | omega | decide +kernel) (fun j h => absurd h (Nat.not_lt_zero j)) _ _ ls hP hD hS (lv_sub hl [0, 1, 2, 3] rfl)
set_option maxHeartbeats 4000000 in
set_option maxRecDepth 100000 in
theorem k_X6_inNode (l : Launch) (D : va_G) (cI cJ cK : ClassId) (xf : Nat) (f1 : Nat) (f2 : Nat) (fz : Nat) (fn : Nat → Int32) (lv : Nat) (h9 : Int32) (hz_fz : fz ≤ 64) (hlv : lv ≤ 8) : cpI l yX6_inNode wsX6_inNode ({ frames := 0, cells := 0, slots := 0, locals := 0 } : Room) D (tyIJ cI cJ cK) [.ref xf, .int (nI lv), .int h9] [(xf, .inr (6, [.ref f1, .ref f2, .int (nI fz)])), (f1, .inl (cI, 512, .inl fn))] (fun (r : Int32) => True) := by
  refine cpI.of (cc := cX6_inNode) (maxL := 3) (ret := (some .int)) (by decide) rfl (Nat.le_of_ble_eq_true rfl) ?_
  intro p e s m below meth c ls hx hb hr hts hown hml hlocks hname hK hN hP hl
  have hl : lv_has ls 3 [(0, .ref xf), (1, .int (nI lv)), (2, .int h9)] := hl
  have hown : s.vm.findClass RX6 = some m.cls := hown
  have hi6 : ∀ w ∈ u_ws RX6 TX6 3, w ∈ wsX6_inNode := by decide +kernel
  have fl9 := hts (.fieldLink RX6 9 "PlaneColumn$Tally" "nodes" "[I") (by decide +kernel)
  have hp8 := my_pow8 (s := lv) (by omega)
  refine lv_iload_n hx hb dX6_inNode_0 rfl (lv_at hl 1 rfl) ?_
  refine lv_if_lt (tgt := 21) hx hb dX6_inNode_1 (by decide) (fun c1 => ?_) (fun c1 => ?_)
  ·
    have d1 : ((lv : Nat) : Int) < (0 : Int) := my_lt c1 (nI_toInt (by omega)) (by decide +kernel)
    refine lv_iconst (v := 0) hx hb dX6_inNode_21 (by decide +kernel) ?_
    exact my_rpI hx hb hr hlocks (trivial) dX6_inNode_22
  ·
    have d1 : ((lv : Nat) : Int) ≥ (0 : Int) := my_nlt c1 (nI_toInt (by omega)) (by decide +kernel)
    refine lv_iload_n hx hb dX6_inNode_4 rfl (lv_at hl 1 rfl) ?_
    refine lv_bipush (v := 8) hx hb dX6_inNode_5 (by decide +kernel) ?_
    refine lv_icmp_gt (tgt := 21) hx hb dX6_inNode_7 (by decide) (fun c7 => ?_) (fun c7 => ?_)
    ·
      have d7 : ((lv : Nat) : Int) > (8 : Int) := my_gt c7 (nI_toInt (by omega)) (by decide +kernel)
      refine lv_iconst (v := 0) hx hb dX6_inNode_21 (by decide +kernel) ?_
      exact my_rpI hx hb hr hlocks (trivial) dX6_inNode_22
    ·
      have d7 : ((lv : Nat) : Int) ≤ (8 : Int) := my_ngt c7 (nI_toInt (by omega)) (by decide +kernel)
      refine lv_iload_n hx hb dX6_inNode_10 rfl (lv_at hl 2 rfl) ?_
      refine lv_if_lt (tgt := 21) hx hb dX6_inNode_11 (by decide) (fun c11 => ?_) (fun c11 => ?_)
      ·
        have d11 : h9.toInt < (0 : Int) := my_lt c11 rfl (by decide +kernel)
        refine lv_iconst (v := 0) hx hb dX6_inNode_21 (by decide +kernel) ?_
        exact my_rpI hx hb hr hlocks (trivial) dX6_inNode_22
      ·
        have d11 : h9.toInt ≥ (0 : Int) := my_nlt c11 rfl (by decide +kernel)
        refine lv_iload_n hx hb dX6_inNode_14 rfl (lv_at hl 2 rfl) ?_
        refine lv_iconst (v := 1) hx hb dX6_inNode_15 (by decide +kernel) ?_
        refine lv_iload_n hx hb dX6_inNode_16 rfl (lv_at hl 1 rfl) ?_
        refine lv_ishl hx hb dX6_inNode_17 ?_
        refine my_eqi (y := nI (2 ^ lv)) (my_shl1 (by omega)) ?_
        refine lv_icmp_lt (tgt := 23) hx hb dX6_inNode_18 (by decide) (fun c18 => ?_) (fun c18 => ?_)
        ·
          have d18 : h9.toInt < ((2 ^ lv : Nat) : Int) := my_lt c18 rfl (nI_toInt (by omega))
          refine lv_aload_n hx hb dX6_inNode_23 rfl (lv_at hl 0 rfl) ?_
          refine va_get (ci := 6) (v := .ref f1) (C := RX6) (T := TX6) (N := 3) hx hb hts hi6 hown hK hP 0 rfl rfl 0 (by decide) fl9 (fun _ h9 => h9) rfl dX6_inNode_24 ?_
          refine lv_iconst (v := 1) hx hb dX6_inNode_27 (by decide +kernel) ?_
          refine lv_iload_n hx hb dX6_inNode_28 rfl (lv_at hl 1 rfl) ?_
          refine lv_ishl hx hb dX6_inNode_29 ?_
          refine my_eqi (y := nI (2 ^ lv)) (my_shl1 (by omega)) ?_
          refine lv_iload_n hx hb dX6_inNode_30 rfl (lv_at hl 2 rfl) ?_
          refine lv_iadd hx hb dX6_inNode_31 ?_
          refine lv_topi (fun z_1 ez_1 => ?_)
          try have tz_1 : z_1.toInt = ((2 ^ lv : Nat) : Int) + h9.toInt := by rw [ez_1]; exact my_addI (nI_toInt (by omega)) rfl (by omega) (by omega)
          refine va_iald hx hb hK hP 1 0 rfl rfl (vp_in_iff.mpr ⟨by omega, by omega⟩) dX6_inNode_32 ?_
          refine lv_topi (fun z_3 ez_3 => ?_)
          exact my_rpI hx hb hr hlocks (trivial) dX6_inNode_33
        ·
          have d18 : h9.toInt ≥ ((2 ^ lv : Nat) : Int) := my_nlt c18 rfl (nI_toInt (by omega))
          refine lv_iconst (v := 0) hx hb dX6_inNode_21 (by decide +kernel) ?_
          exact my_rpI hx hb hr hlocks (trivial) dX6_inNode_22
set_option maxHeartbeats 4000000 in
set_option maxRecDepth 100000 in
theorem k_X6_timesOf (l : Launch) (D : va_G) (cI cJ cK : ClassId) (xf : Nat) (f1 : Nat) (f2 : Nat) (fz : Nat) (fn : Nat → Int32) (v9 : Int32) (hz_fz : fz ≤ 64) : cpI l yX6_timesOf wsX6_timesOf ({ frames := 1, cells := 0, slots := 0, locals := 60 } : Room) D (tyIJ cI cJ cK) [.ref xf, .int v9] [(xf, .inr (6, [.ref f1, .ref f2, .int (nI fz)])), (f1, .inl (cI, 512, .inl fn))] (fun (r : Int32) => True) := by
  refine cpI.of (cc := cX6_timesOf) (maxL := 2) (ret := (some .int)) (by decide) rfl (Nat.le_of_ble_eq_true rfl) ?_
  intro p e s m below meth c ls hx hb hr hts hown hml hlocks hname hK hN hP hl
  have hl : lv_has ls 2 [(0, .ref xf), (1, .int v9)] := hl
  have hown : s.vm.findClass RX6 = some m.cls := hown
  refine lv_aload_n hx hb dX6_timesOf_0 rfl (lv_at hl 0 rfl) ?_
  refine lv_bipush (v := 8) hx hb dX6_timesOf_1 (by decide +kernel) ?_
  refine lv_iload_n hx hb dX6_timesOf_3 rfl (lv_at hl 1 rfl) ?_
  refine my_gpI (my_pV (As := [.int 8, .int v9]) (rest := []) (ci := 6) ⟨hx, hb, hml, hown, hts⟩ (cwV 2 hts gX6_timesOf_X6_inNode rfl rfl rfl (by decide +kernel) ⟨Nat.le_of_ble_eq_true rfl, Nat.le_of_ble_eq_true rfl⟩) hN hK hP [0, 1] rfl 0 rfl rfl rfl rfl hl.1 rfl (Nat.le_of_ble_eq_true rfl) dX6_timesOf_4 ⟨Nat.le_of_ble_eq_true rfl, Nat.le_of_ble_eq_true rfl⟩  (k_X6_inNode l D cI cJ cK xf f1 f2 fz fn 8 v9 (by first | assumption | omega | decide +kernel) (by first | assumption | omega | decide +kernel))) (fun r hp => ?_)
  obtain _ := hp
  obtain ⟨r_1, rfl⟩ : ∃ z, z = r := ⟨_, rfl⟩
  exact my_rpI hx hb hr hlocks (trivial) dX6_timesOf_7
set_option maxHeartbeats 4000000 in
set_option maxRecDepth 100000 in
theorem k_X6_sortedAt (l : Launch) (D : va_G) (cI cJ cK : ClassId) (xf : Nat) (f1 : Nat) (f2 : Nat) (fz : Nat) (fs : Nat → Int32) (v9 : Int32) (hz_fz : fz ≤ 64) : cpI l yX6_sortedAt wsX6_sortedAt ({ frames := 0, cells := 0, slots := 0, locals := 0 } : Room) D (tyIJ cI cJ cK) [.ref xf, .int v9] [(xf, .inr (6, [.ref f1, .ref f2, .int (nI fz)])), (f2, .inl (cI, 64, .inl fs))] (fun (r : Int32) => True) := by
  refine cpI.of (cc := cX6_sortedAt) (maxL := 2) (ret := (some .int)) (by decide) rfl (Nat.le_of_ble_eq_true rfl) ?_
  intro p e s m below meth c ls hx hb hr hts hown hml hlocks hname hK hN hP hl
  have hl : lv_has ls 2 [(0, .ref xf), (1, .int v9)] := hl
  have hown : s.vm.findClass RX6 = some m.cls := hown
  have hi6 : ∀ w ∈ u_ws RX6 TX6 3, w ∈ wsX6_sortedAt := by decide +kernel
  have fl15 := hts (.fieldLink RX6 15 "PlaneColumn$Tally" "sorted" "[I") (by decide +kernel)
  have fl18 := hts (.fieldLink RX6 18 "PlaneColumn$Tally" "size" "I") (by decide +kernel)
  refine lv_iload_n hx hb dX6_sortedAt_0 rfl (lv_at hl 1 rfl) ?_
  refine lv_if_lt (tgt := 21) hx hb dX6_sortedAt_1 (by decide) (fun c1 => ?_) (fun c1 => ?_)
  ·
    have d1 : v9.toInt < (0 : Int) := my_lt c1 rfl (by decide +kernel)
    refine lv_iconst (v := (-1)) hx hb dX6_sortedAt_21 (by decide +kernel) ?_
    exact my_rpI hx hb hr hlocks (trivial) dX6_sortedAt_22
  ·
    have d1 : v9.toInt ≥ (0 : Int) := my_nlt c1 rfl (by decide +kernel)
    refine lv_iload_n hx hb dX6_sortedAt_4 rfl (lv_at hl 1 rfl) ?_
    refine lv_aload_n hx hb dX6_sortedAt_5 rfl (lv_at hl 0 rfl) ?_
    refine va_get (ci := 6) (v := .int (nI fz)) (C := RX6) (T := TX6) (N := 3) hx hb hts hi6 hown hK hP 0 rfl rfl 2 (by decide) fl18 (fun _ h9 => h9) rfl dX6_sortedAt_6 ?_
    refine lv_icmp_ge (tgt := 21) hx hb dX6_sortedAt_9 (by decide) (fun c9 => ?_) (fun c9 => ?_)
    ·
      have d9 : v9.toInt ≥ ((fz : Nat) : Int) := my_ge c9 rfl (nI_toInt (by omega))
      refine lv_iconst (v := (-1)) hx hb dX6_sortedAt_21 (by decide +kernel) ?_
      exact my_rpI hx hb hr hlocks (trivial) dX6_sortedAt_22
    ·
      have d9 : v9.toInt < ((fz : Nat) : Int) := my_nge c9 rfl (nI_toInt (by omega))
      refine lv_aload_n hx hb dX6_sortedAt_12 rfl (lv_at hl 0 rfl) ?_
      refine va_get (ci := 6) (v := .ref f2) (C := RX6) (T := TX6) (N := 3) hx hb hts hi6 hown hK hP 0 rfl rfl 1 (by decide) fl15 (fun _ h9 => h9) rfl dX6_sortedAt_13 ?_
      refine lv_iload_n hx hb dX6_sortedAt_16 rfl (lv_at hl 1 rfl) ?_
      refine va_iald hx hb hK hP 1 0 rfl rfl (vp_in_iff.mpr ⟨by omega, by omega⟩) dX6_sortedAt_17 ?_
      refine lv_topi (fun z_2 ez_2 => ?_)
      refine lv_goto (tgt := 22) hx hb dX6_sortedAt_18 (by decide) ?_
      exact my_rpI hx hb hr hlocks (trivial) dX6_sortedAt_22
set_option maxHeartbeats 4000000 in
set_option maxRecDepth 100000 in
theorem kf_X6_inNode (l : Launch) (D : va_G) (cI cJ cK : ClassId) (xf : Nat) (f1 : Nat) (f2 : Nat) (fz : Nat) (fn : Nat → Int32) (lv : Nat) (h0 : Nat) (hz_fz : fz ≤ 64) (hlv : lv ≤ 8) (hh0 : h0 < 2 ^ lv) : cpI l yX6_inNode wsX6_inNode ({ frames := 0, cells := 0, slots := 0, locals := 0 } : Room) D (tyIJ cI cJ cK) [.ref xf, .int (nI lv), .int (nI h0)] [(xf, .inr (6, [.ref f1, .ref f2, .int (nI fz)])), (f1, .inl (cI, 512, .inl fn))] (fun (r : Int32) => r = fn (2 ^ lv + h0)) := by
  refine cpI.of (cc := cX6_inNode) (maxL := 3) (ret := (some .int)) (by decide) rfl (Nat.le_of_ble_eq_true rfl) ?_
  intro p e s m below meth c ls hx hb hr hts hown hml hlocks hname hK hN hP hl
  have hl : lv_has ls 3 [(0, .ref xf), (1, .int (nI lv)), (2, .int (nI h0))] := hl
  have hown : s.vm.findClass RX6 = some m.cls := hown
  have hi6 : ∀ w ∈ u_ws RX6 TX6 3, w ∈ wsX6_inNode := by decide +kernel
  have fl9 := hts (.fieldLink RX6 9 "PlaneColumn$Tally" "nodes" "[I") (by decide +kernel)
  have hp8 := my_pow8 (s := lv) (by omega)
  refine lv_iload_n hx hb dX6_inNode_0 rfl (lv_at hl 1 rfl) ?_
  refine lv_if_lt (tgt := 21) hx hb dX6_inNode_1 (by decide) (fun c1 => ?_) (fun c1 => ?_)
  ·
    have d1 : ((lv : Nat) : Int) < (0 : Int) := my_lt c1 (nI_toInt (by omega)) (by decide +kernel)
    exact absurd d1 (by omega)
  ·
    have d1 : ((lv : Nat) : Int) ≥ (0 : Int) := my_nlt c1 (nI_toInt (by omega)) (by decide +kernel)
    refine lv_iload_n hx hb dX6_inNode_4 rfl (lv_at hl 1 rfl) ?_
    refine lv_bipush (v := 8) hx hb dX6_inNode_5 (by decide +kernel) ?_
    refine lv_icmp_gt (tgt := 21) hx hb dX6_inNode_7 (by decide) (fun c7 => ?_) (fun c7 => ?_)
    ·
      have d7 : ((lv : Nat) : Int) > (8 : Int) := my_gt c7 (nI_toInt (by omega)) (by decide +kernel)
      exact absurd d7 (by omega)
    ·
      have d7 : ((lv : Nat) : Int) ≤ (8 : Int) := my_ngt c7 (nI_toInt (by omega)) (by decide +kernel)
      refine lv_iload_n hx hb dX6_inNode_10 rfl (lv_at hl 2 rfl) ?_
      refine lv_if_lt (tgt := 21) hx hb dX6_inNode_11 (by decide) (fun c11 => ?_) (fun c11 => ?_)
      ·
        have d11 : ((h0 : Nat) : Int) < (0 : Int) := my_lt c11 (nI_toInt (by omega)) (by decide +kernel)
        exact absurd d11 (by omega)
      ·
        have d11 : ((h0 : Nat) : Int) ≥ (0 : Int) := my_nlt c11 (nI_toInt (by omega)) (by decide +kernel)
        refine lv_iload_n hx hb dX6_inNode_14 rfl (lv_at hl 2 rfl) ?_
        refine lv_iconst (v := 1) hx hb dX6_inNode_15 (by decide +kernel) ?_
        refine lv_iload_n hx hb dX6_inNode_16 rfl (lv_at hl 1 rfl) ?_
        refine lv_ishl hx hb dX6_inNode_17 ?_
        refine my_eqi (y := nI (2 ^ lv)) (my_shl1 (by omega)) ?_
        refine lv_icmp_lt (tgt := 23) hx hb dX6_inNode_18 (by decide) (fun c18 => ?_) (fun c18 => ?_)
        ·
          have d18 : ((h0 : Nat) : Int) < ((2 ^ lv : Nat) : Int) := my_lt c18 (nI_toInt (by omega)) (nI_toInt (by omega))
          refine lv_aload_n hx hb dX6_inNode_23 rfl (lv_at hl 0 rfl) ?_
          refine va_get (ci := 6) (v := .ref f1) (C := RX6) (T := TX6) (N := 3) hx hb hts hi6 hown hK hP 0 rfl rfl 0 (by decide) fl9 (fun _ h9 => h9) rfl dX6_inNode_24 ?_
          refine lv_iconst (v := 1) hx hb dX6_inNode_27 (by decide +kernel) ?_
          refine lv_iload_n hx hb dX6_inNode_28 rfl (lv_at hl 1 rfl) ?_
          refine lv_ishl hx hb dX6_inNode_29 ?_
          refine my_eqi (y := nI (2 ^ lv)) (my_shl1 (by omega)) ?_
          refine lv_iload_n hx hb dX6_inNode_30 rfl (lv_at hl 2 rfl) ?_
          refine lv_iadd hx hb dX6_inNode_31 ?_
          refine my_eqi (y := nI (2 ^ lv + h0)) (nI_add _ _) ?_
          refine va_iald hx hb hK hP 1 0 rfl rfl (vp_in_nI (by omega) (by omega)) dX6_inNode_32 ?_
          refine my_eqi (y := fn (2 ^ lv + h0)) (congrArg fn (nI_clamp (by omega))) ?_
          exact my_rpI hx hb hr hlocks (rfl) dX6_inNode_33
        ·
          have d18 : ((h0 : Nat) : Int) ≥ ((2 ^ lv : Nat) : Int) := my_nlt c18 (nI_toInt (by omega)) (nI_toInt (by omega))
          exact absurd d18 (by omega)
set_option maxHeartbeats 4000000 in
set_option maxRecDepth 100000 in
theorem kf_X6_timesOf (l : Launch) (D : va_G) (cI cJ cK : ClassId) (xf : Nat) (f1 : Nat) (f2 : Nat) (fz : Nat) (fn : Nat → Int32) (v : Nat) (hz_fz : fz ≤ 64) (hv : v < 256) : cpI l yX6_timesOf wsX6_timesOf ({ frames := 1, cells := 0, slots := 0, locals := 60 } : Room) D (tyIJ cI cJ cK) [.ref xf, .int (nI v)] [(xf, .inr (6, [.ref f1, .ref f2, .int (nI fz)])), (f1, .inl (cI, 512, .inl fn))] (fun (r : Int32) => r = fn (256 + v)) := by
  refine cpI.of (cc := cX6_timesOf) (maxL := 2) (ret := (some .int)) (by decide) rfl (Nat.le_of_ble_eq_true rfl) ?_
  intro p e s m below meth c ls hx hb hr hts hown hml hlocks hname hK hN hP hl
  have hl : lv_has ls 2 [(0, .ref xf), (1, .int (nI v))] := hl
  have hown : s.vm.findClass RX6 = some m.cls := hown
  refine lv_aload_n hx hb dX6_timesOf_0 rfl (lv_at hl 0 rfl) ?_
  refine lv_bipush (v := 8) hx hb dX6_timesOf_1 (by decide +kernel) ?_
  refine lv_iload_n hx hb dX6_timesOf_3 rfl (lv_at hl 1 rfl) ?_
  refine my_gpI (my_pV (As := [.int 8, .int (nI v)]) (rest := []) (ci := 6) ⟨hx, hb, hml, hown, hts⟩ (cwV 2 hts gX6_timesOf_X6_inNode rfl rfl rfl (by decide +kernel) ⟨Nat.le_of_ble_eq_true rfl, Nat.le_of_ble_eq_true rfl⟩) hN hK hP [0, 1] rfl 0 rfl rfl rfl rfl hl.1 rfl (Nat.le_of_ble_eq_true rfl) dX6_timesOf_4 ⟨Nat.le_of_ble_eq_true rfl, Nat.le_of_ble_eq_true rfl⟩  (kf_X6_inNode l D cI cJ cK xf f1 f2 fz fn 8 v (by first | assumption | omega | decide +kernel) (by first | assumption | omega | decide +kernel) (by first | assumption | omega | decide +kernel))) (fun r hp => ?_)
  obtain rfl := hp
  exact my_rpI hx hb hr hlocks ((congrArg fn (by omega))) dX6_timesOf_7
set_option maxHeartbeats 4000000 in
set_option maxRecDepth 100000 in
theorem kt_X6_timesOf (l : Launch) (D : va_G) (cI cJ cK : ClassId) (xf : Nat) (f1 : Nat) (f2 : Nat) (fz : Nat) (fn : Nat → Int32) (v : Nat) (cf : Nat → Nat) (hz_fz : fz ≤ 64) (hv : v < 256) (hcf : ∀ v, v < 256 → fn (256 + v) = nI (cf v)) (hc64 : cf v ≤ 64) : cpI l yX6_timesOf wsX6_timesOf ({ frames := 1, cells := 0, slots := 0, locals := 60 } : Room) D (tyIJ cI cJ cK) [.ref xf, .int (nI v)] [(xf, .inr (6, [.ref f1, .ref f2, .int (nI fz)])), (f1, .inl (cI, 512, .inl fn))] (fun (r : Int32) => ∃ (t' : Nat), r = nI t' ∧ t' = cf v ∧ t' ≤ 64) := by
  refine cpI.of (cc := cX6_timesOf) (maxL := 2) (ret := (some .int)) (by decide) rfl (Nat.le_of_ble_eq_true rfl) ?_
  intro p e s m below meth c ls hx hb hr hts hown hml hlocks hname hK hN hP hl
  have hl : lv_has ls 2 [(0, .ref xf), (1, .int (nI v))] := hl
  have hown : s.vm.findClass RX6 = some m.cls := hown
  refine lv_aload_n hx hb dX6_timesOf_0 rfl (lv_at hl 0 rfl) ?_
  refine lv_bipush (v := 8) hx hb dX6_timesOf_1 (by decide +kernel) ?_
  refine lv_iload_n hx hb dX6_timesOf_3 rfl (lv_at hl 1 rfl) ?_
  refine my_gpI (my_pV (As := [.int 8, .int (nI v)]) (rest := []) (ci := 6) ⟨hx, hb, hml, hown, hts⟩ (cwV 2 hts gX6_timesOf_X6_inNode rfl rfl rfl (by decide +kernel) ⟨Nat.le_of_ble_eq_true rfl, Nat.le_of_ble_eq_true rfl⟩) hN hK hP [0, 1] rfl 0 rfl rfl rfl rfl hl.1 rfl (Nat.le_of_ble_eq_true rfl) dX6_timesOf_4 ⟨Nat.le_of_ble_eq_true rfl, Nat.le_of_ble_eq_true rfl⟩  (kf_X6_inNode l D cI cJ cK xf f1 f2 fz fn 8 v (by first | assumption | omega | decide +kernel) (by first | assumption | omega | decide +kernel) (by first | assumption | omega | decide +kernel))) (fun r hp => ?_)
  obtain rfl := hp
  exact my_rpI hx hb hr hlocks (⟨(cf v), (hcf v hv), rfl, hc64⟩) dX6_timesOf_7
set_option maxHeartbeats 4000000 in
set_option maxRecDepth 100000 in
theorem kf_X6_sortedAt (l : Launch) (D : va_G) (cI cJ cK : ClassId) (xf : Nat) (f1 : Nat) (f2 : Nat) (fz : Nat) (fs : Nat → Int32) (j : Nat) (hz_fz : fz ≤ 64) (hj31 : j < 2147483648) : cpI l yX6_sortedAt wsX6_sortedAt ({ frames := 0, cells := 0, slots := 0, locals := 0 } : Room) D (tyIJ cI cJ cK) [.ref xf, .int (nI j)] [(xf, .inr (6, [.ref f1, .ref f2, .int (nI fz)])), (f2, .inl (cI, 64, .inl fs))] (fun (r : Int32) => (r = fs j ∧ j < fz) ∨ (r = (-1) ∧ fz ≤ j)) := by
  refine cpI.of (cc := cX6_sortedAt) (maxL := 2) (ret := (some .int)) (by decide) rfl (Nat.le_of_ble_eq_true rfl) ?_
  intro p e s m below meth c ls hx hb hr hts hown hml hlocks hname hK hN hP hl
  have hl : lv_has ls 2 [(0, .ref xf), (1, .int (nI j))] := hl
  have hown : s.vm.findClass RX6 = some m.cls := hown
  have hi6 : ∀ w ∈ u_ws RX6 TX6 3, w ∈ wsX6_sortedAt := by decide +kernel
  have fl15 := hts (.fieldLink RX6 15 "PlaneColumn$Tally" "sorted" "[I") (by decide +kernel)
  have fl18 := hts (.fieldLink RX6 18 "PlaneColumn$Tally" "size" "I") (by decide +kernel)
  refine lv_iload_n hx hb dX6_sortedAt_0 rfl (lv_at hl 1 rfl) ?_
  refine lv_if_lt (tgt := 21) hx hb dX6_sortedAt_1 (by decide) (fun c1 => ?_) (fun c1 => ?_)
  ·
    have d1 : ((j : Nat) : Int) < (0 : Int) := my_lt c1 (nI_toInt (by omega)) (by decide +kernel)
    exact absurd d1 (by omega)
  ·
    have d1 : ((j : Nat) : Int) ≥ (0 : Int) := my_nlt c1 (nI_toInt (by omega)) (by decide +kernel)
    refine lv_iload_n hx hb dX6_sortedAt_4 rfl (lv_at hl 1 rfl) ?_
    refine lv_aload_n hx hb dX6_sortedAt_5 rfl (lv_at hl 0 rfl) ?_
    refine va_get (ci := 6) (v := .int (nI fz)) (C := RX6) (T := TX6) (N := 3) hx hb hts hi6 hown hK hP 0 rfl rfl 2 (by decide) fl18 (fun _ h9 => h9) rfl dX6_sortedAt_6 ?_
    refine lv_icmp_ge (tgt := 21) hx hb dX6_sortedAt_9 (by decide) (fun c9 => ?_) (fun c9 => ?_)
    ·
      have d9 : ((j : Nat) : Int) ≥ ((fz : Nat) : Int) := my_ge c9 (nI_toInt (by omega)) (nI_toInt (by omega))
      refine lv_iconst (v := (-1)) hx hb dX6_sortedAt_21 (by decide +kernel) ?_
      exact my_rpI hx hb hr hlocks (Or.inr (⟨rfl, (by first | assumption | omega | trivial | decide +kernel)⟩)) dX6_sortedAt_22
    ·
      have d9 : ((j : Nat) : Int) < ((fz : Nat) : Int) := my_nge c9 (nI_toInt (by omega)) (nI_toInt (by omega))
      refine lv_aload_n hx hb dX6_sortedAt_12 rfl (lv_at hl 0 rfl) ?_
      refine va_get (ci := 6) (v := .ref f2) (C := RX6) (T := TX6) (N := 3) hx hb hts hi6 hown hK hP 0 rfl rfl 1 (by decide) fl15 (fun _ h9 => h9) rfl dX6_sortedAt_13 ?_
      refine lv_iload_n hx hb dX6_sortedAt_16 rfl (lv_at hl 1 rfl) ?_
      refine va_iald hx hb hK hP 1 0 rfl rfl (vp_in_nI (by omega) (by omega)) dX6_sortedAt_17 ?_
      refine my_eqi (y := fs j) (congrArg fs (nI_clamp (by omega))) ?_
      refine lv_goto (tgt := 22) hx hb dX6_sortedAt_18 (by decide) ?_
      exact my_rpI hx hb hr hlocks (Or.inl ⟨rfl, (by first | assumption | omega | trivial | decide +kernel)⟩) dX6_sortedAt_22
abbrev wl_k_X6_sort (cI cJ cK : ClassId) (xf : Nat) (f1 : Nat) (f2 : Nat) (v0_ : Int32) (v1_ : Nat → Int32) (v2_ : Nat → Int32) : va_W := [(xf, .inr (6, [.ref f1, .ref f2, .int v0_])), (f1, .inl (cI, 512, .inl v1_)), (f2, .inl (cI, 64, .inl v2_))]
set_option maxHeartbeats 4000000 in
set_option maxRecDepth 100000 in
theorem k_X6_sort (l : Launch) (D : va_G) (cI cJ cK : ClassId) (xf : Nat) (f1 : Nat) (f2 : Nat) (fz : Nat) (fn : Nat → Int32) (fs : Nat → Int32) (cf : Nat → Nat) (hz_fz : fz ≤ 64) (hcf : ∀ v, v < 256 → fn (256 + v) = nI (cf v)) (hcs : fb_sm cf 256 ≤ 64) : ctV l yX6_sort wsX6_sort ({ frames := 2, cells := 0, slots := 0, locals := 120 } : Room) D (tyIJ cI cJ cK) [.ref xf] (wl_k_X6_sort cI cJ cK xf f1 f2 (nI fz) fn fs) (fun (u : va_W) => ∃ (fz' : Nat) (fs' : Nat → Int32), u = (wl_k_X6_sort cI cJ cK xf f1 f2 (nI fz') fn fs') ∧ fz' ≤ 64 ∧ fz' = fb_sm cf 256 ∧ SRV fs' cf 256) := by
  refine ctV.of (cc := cX6_sort) (maxL := 4) (ret := none) (by decide) rfl (Nat.le_of_ble_eq_true rfl) ?_
  intro p e s m below meth c ls A hx hb hr hts hown hml hlocks hname hA hK hN hP hD hS hl
  have hl : lv_has ls 4 [(0, .ref xf)] := hl
  have hown : s.vm.findClass RX6 = some m.cls := hown
  have hi6 : ∀ w ∈ u_ws RX6 TX6 3, w ∈ wsX6_sort := by decide +kernel
  have fl15 := hts (.fieldLink RX6 15 "PlaneColumn$Tally" "sorted" "[I") (by decide +kernel)
  have fl18 := hts (.fieldLink RX6 18 "PlaneColumn$Tally" "size" "I") (by decide +kernel)
  refine lv_aload_n hx hb dX6_sort_0 rfl (lv_at hl 0 rfl) ?_
  refine lv_iconst (v := 0) hx hb dX6_sort_1 (by decide +kernel) ?_
  refine va_put (ci := 6) (v := .int 0) (ty := (.int)) (C := RX6) (T := TX6) (N := 3) hx hb hts hi6 tyX6 tyX6_ok nmX6 hown hK hP hD hS 0 rfl rfl 2 (by decide) fl18 (fun _ h9 => h9) rfl (by decide +kernel) rfl rfl (Nat.le_of_ble_eq_true rfl) dX6_sort_2 (fun H locs hP hD hS => ?_)
  have hP : va_P D vwCl (wl_k_X6_sort cI cJ cK xf f1 f2 0 fn fs) H := hP
  have hD : va_D A (wl_k_X6_sort cI cJ cK xf f1 f2 0 fn fs) := hD
  refine lv_iconst (v := 0) hx hb dX6_sort_5 (by decide +kernel) ?_
  refine lv_istore_n (lv' := [(1, .int 0), (0, .ref xf)]) hx hb dX6_sort_6 rfl hl (by decide) rfl (fun ls hl => ?_)
  have loop7 : ∀ (n9 : Nat) (v : Nat) (xf_size_7 : Nat) (f2_7 : Nat → Int32), 256 - v < n9 → (v ≤ 256) → (xf_size_7 = fb_sm cf v) → (SRV f2_7 cf v) → (xf_size_7 ≤ 64) → ∀ (H : Heap) (locs : List Loc) (ls : Array Slot), va_P D vwCl (wl_k_X6_sort cI cJ cK xf f1 f2 (nI xf_size_7) fn f2_7) H → va_D A (wl_k_X6_sort cI cJ cK xf f1 f2 (nI xf_size_7) fn f2_7) → va_S A s.heap H locs → lv_has ls 4 [(1, .int (nI v)), (0, .ref xf)] → W p l e ({ frames := 2, cells := 0, slots := 0, locals := 120 } : Room) s m [.ref xf].toArray below meth c H locs 0 0 (MQ below (va_Qv (fun (u : va_W) => ∃ (fz' : Nat) (fs' : Nat → Int32), u = (wl_k_X6_sort cI cJ cK xf f1 f2 (nI fz') fn fs') ∧ fz' ≤ 64 ∧ fz' = fb_sm cf 256 ∧ SRV fs' cf 256) (my_B D (tyIJ cI cJ cK) A) A) [.ref xf].toArray s 0 0 A) (F0 m 7 ls []) := by
    intro n9
    induction n9 with
    | zero =>
      intro v xf_size_7 f2_7 hn9
      exact absurd hn9 (Nat.not_lt_zero _)
    | succ n9 ih7 =>
      intro v xf_size_7 f2_7 hn9 hk_v hs1 hs2 hz_xf_size_7 H locs ls hP hD hS hl
      refine lv_iload_n hx hb dX6_sort_7 rfl (lv_at hl 0 rfl) ?_
      refine lv_sipush (v := 255) hx hb dX6_sort_8 (by decide +kernel) ?_
      refine lv_icmp_gt (tgt := 71) hx hb dX6_sort_11 (by decide) (fun c11 => ?_) (fun c11 => ?_)
      ·
        have d11 : ((v : Nat) : Int) > (255 : Int) := my_gt c11 (nI_toInt (by omega)) (by decide +kernel)
        exact my_retV hx hb hr hlocks hK hS (wl_k_X6_sort cI cJ cK xf f1 f2 (nI xf_size_7) fn f2_7) hP hD (⟨xf_size_7, f2_7, rfl, (by first | assumption | omega | trivial | decide +kernel), (by rw [hs1, show v = 256 from (by omega)]), (by have e9 : v = 256 := (by omega); rw [e9] at hs2; exact hs2)⟩) dX6_sort_71
      ·
        have d11 : ((v : Nat) : Int) ≤ (255 : Int) := my_ngt c11 (nI_toInt (by omega)) (by decide +kernel)
        refine lv_aload_n hx hb dX6_sort_14 rfl (lv_at hl 1 rfl) ?_
        refine lv_iload_n hx hb dX6_sort_15 rfl (lv_at hl 0 rfl) ?_
        refine my_gpI (my_pV (As := [.int (nI v)]) (rest := []) (ci := 6) ⟨hx, hb, hml, hown, hts⟩ (cwV 1 hts gX6_sort_X6_timesOf rfl rfl rfl (by decide +kernel) ⟨Nat.le_of_ble_eq_true rfl, Nat.le_of_ble_eq_true rfl⟩) hN hK hP [0, 1] rfl 0 rfl rfl rfl rfl hl.1 rfl (Nat.le_of_ble_eq_true rfl) dX6_sort_16 ⟨Nat.le_of_ble_eq_true rfl, Nat.le_of_ble_eq_true rfl⟩  (kf_X6_timesOf l D cI cJ cK xf f1 f2 xf_size_7 fn v (by first | assumption | omega | decide +kernel) (by first | assumption | omega | decide +kernel))) (fun r hp => ?_)
        obtain rfl := hp
        have hpt := fb_sm_part cf (i := v) (n := 256) (by omega)
        have htm : (fn (256 + v)).toInt = (cf v : Int) := by rw [hcf v (by omega)]; exact nI_toInt (by omega)
        obtain ⟨w_1, ew_1, hw_1⟩ : ∃ w : Nat, (fn (256 + v)) = nI w ∧ (w : Int) = (fn (256 + v) : Int32).toInt := my_natE (by omega)
        refine my_eqi (y := nI w_1) ew_1 ?_
        refine lv_istore_n (lv' := [(2, .int (nI w_1)), (1, .int (nI v)), (0, .ref xf)]) hx hb dX6_sort_19 rfl hl (by decide) rfl (fun ls hl => ?_)
        refine lv_iconst (v := 0) hx hb dX6_sort_20 (by decide +kernel) ?_
        refine lv_istore_n (lv' := [(3, .int 0), (2, .int (nI w_1)), (1, .int (nI v)), (0, .ref xf)]) hx hb dX6_sort_21 rfl hl (by decide) rfl (fun ls hl => ?_)
        have loop22 : ∀ (n9 : Nat) (j : Nat) (xf_size_22 : Nat) (f2_22 : Nat → Int32), 64 - j < n9 → (j ≤ 64) → (xf_size_22 = fb_sm cf v + j) → (j ≤ cf v) → (SRV f2_22 cf v) → (∀ q, fb_sm cf v ≤ q → q < fb_sm cf v + j → f2_22 q = nI v) → (xf_size_22 ≤ 64) → ∀ (H : Heap) (locs : List Loc) (ls : Array Slot), va_P D vwCl (wl_k_X6_sort cI cJ cK xf f1 f2 (nI xf_size_22) fn f2_22) H → va_D A (wl_k_X6_sort cI cJ cK xf f1 f2 (nI xf_size_22) fn f2_22) → va_S A s.heap H locs → lv_has ls 4 [(3, .int (nI j)), (2, .int (nI w_1)), (1, .int (nI v)), (0, .ref xf)] → W p l e ({ frames := 2, cells := 0, slots := 0, locals := 120 } : Room) s m [.ref xf].toArray below meth c H locs 0 0 (MQ below (va_Qv (fun (u : va_W) => ∃ (fz' : Nat) (fs' : Nat → Int32), u = (wl_k_X6_sort cI cJ cK xf f1 f2 (nI fz') fn fs') ∧ fz' ≤ 64 ∧ fz' = fb_sm cf 256 ∧ SRV fs' cf 256) (my_B D (tyIJ cI cJ cK) A) A) [.ref xf].toArray s 0 0 A) (F0 m 22 ls []) := by
          intro n9
          induction n9 with
          | zero =>
            intro j xf_size_22 f2_22 hn9
            exact absurd hn9 (Nat.not_lt_zero _)
          | succ n9 ih22 =>
            intro j xf_size_22 f2_22 hn9 hk_j hj1 hj2 hj3 hj4 hz_xf_size_22 H locs ls hP hD hS hl
            refine lv_iload_n hx hb dX6_sort_22 rfl (lv_at hl 0 rfl) ?_
            refine lv_iload_n hx hb dX6_sort_23 rfl (lv_at hl 1 rfl) ?_
            refine lv_icmp_ge (tgt := 65) hx hb dX6_sort_24 (by decide) (fun c24 => ?_) (fun c24 => ?_)
            ·
              have d24 : ((j : Nat) : Int) ≥ ((w_1 : Nat) : Int) := my_ge c24 (nI_toInt (by omega)) (nI_toInt (by omega))
              refine lv_iinc (v := nI (v + 1)) (lv' := [(1, .int (nI (v + 1))), (3, .int (nI j)), (2, .int (nI w_1)), (0, .ref xf)]) hx hb dX6_sort_65 hl (k := 2) rfl (my_incN v 1 (by decide +kernel)) (by decide) rfl (fun ls hl => ?_)
              refine lv_goto (tgt := 7) hx hb dX6_sort_68 (by decide) ?_
              exact ih7  (v + 1) xf_size_22 f2_22 (by omega) (by first | assumption | omega | decide +kernel) (by rw [fb_sm_succ]; omega) (sr_out hj3 hj4 (by omega)) (by first | assumption | omega | decide +kernel) _ _ ls hP hD hS (lv_sub hl [0, 3] rfl)
            ·
              have d24 : ((j : Nat) : Int) < ((w_1 : Nat) : Int) := my_nge c24 (nI_toInt (by omega)) (nI_toInt (by omega))
              refine lv_aload_n hx hb dX6_sort_27 rfl (lv_at hl 3 rfl) ?_
              refine va_get (ci := 6) (v := .int (nI xf_size_22)) (C := RX6) (T := TX6) (N := 3) hx hb hts hi6 hown hK hP 0 rfl rfl 2 (by decide) fl18 (fun _ h9 => h9) rfl dX6_sort_28 ?_
              refine lv_aload_n hx hb dX6_sort_31 rfl (lv_at hl 3 rfl) ?_
              refine va_get (ci := 6) (v := .ref f2) (C := RX6) (T := TX6) (N := 3) hx hb hts hi6 hown hK hP 0 rfl rfl 1 (by decide) fl15 (fun _ h9 => h9) rfl dX6_sort_32 ?_
              refine va_alen (v := 64) hx hb hK hP 2 0 rfl rfl rfl dX6_sort_35 ?_
              refine lv_icmp_ge (tgt := 65) hx hb dX6_sort_36 (by decide) (fun c36 => ?_) (fun c36 => ?_)
              ·
                have d36 : ((xf_size_22 : Nat) : Int) ≥ (64 : Int) := my_ge c36 (nI_toInt (by omega)) (by decide +kernel)
                exact absurd d36 (by omega)
              ·
                have d36 : ((xf_size_22 : Nat) : Int) < (64 : Int) := my_nge c36 (nI_toInt (by omega)) (by decide +kernel)
                refine lv_aload_n hx hb dX6_sort_39 rfl (lv_at hl 3 rfl) ?_
                refine va_get (ci := 6) (v := .ref f2) (C := RX6) (T := TX6) (N := 3) hx hb hts hi6 hown hK hP 0 rfl rfl 1 (by decide) fl15 (fun _ h9 => h9) rfl dX6_sort_40 ?_
                refine lv_aload_n hx hb dX6_sort_43 rfl (lv_at hl 3 rfl) ?_
                refine va_get (ci := 6) (v := .int (nI xf_size_22)) (C := RX6) (T := TX6) (N := 3) hx hb hts hi6 hown hK hP 0 rfl rfl 2 (by decide) fl18 (fun _ h9 => h9) rfl dX6_sort_44 ?_
                refine lv_iload_n hx hb dX6_sort_47 rfl (lv_at hl 2 rfl) ?_
                refine va_iast hx hb hK hP hD hS 2 0 rfl rfl (vp_in_nI (by omega) (by omega)) dX6_sort_48 (fun H locs hP hD hS => ?_)
                obtain ⟨g_2, eg_2⟩ : ∃ g : Nat → Int32, g = upd f2_22 xf_size_22 (nI v) := ⟨_, rfl⟩
                have eU : upd f2_22 (nI xf_size_22 : Int32).toNatClampNeg (nI v) = g_2 := by rw [eg_2, show (nI xf_size_22 : Int32).toNatClampNeg = xf_size_22 from nI_clamp (by omega)]
                rw [eU] at hP hD
                have hP : va_P D vwCl (wl_k_X6_sort cI cJ cK xf f1 f2 (nI xf_size_22) fn g_2) H := hP
                have hD : va_D A (wl_k_X6_sort cI cJ cK xf f1 f2 (nI xf_size_22) fn g_2) := hD
                refine lv_aload_n hx hb dX6_sort_49 rfl (lv_at hl 3 rfl) ?_
                refine lv_dup hx hb dX6_sort_50 rfl ?_
                refine va_get (ci := 6) (v := .int (nI xf_size_22)) (C := RX6) (T := TX6) (N := 3) hx hb hts hi6 hown hK hP 0 rfl rfl 2 (by decide) fl18 (fun _ h9 => h9) rfl dX6_sort_51 ?_
                refine lv_iconst (v := 1) hx hb dX6_sort_54 (by decide +kernel) ?_
                refine lv_iadd hx hb dX6_sort_55 ?_
                refine my_eqi (y := nI (xf_size_22 + 1)) (my_addN xf_size_22 1) ?_
                refine va_put (ci := 6) (v := .int (nI (xf_size_22 + 1))) (ty := (.int)) (C := RX6) (T := TX6) (N := 3) hx hb hts hi6 tyX6 tyX6_ok nmX6 hown hK hP hD hS 0 rfl rfl 2 (by decide) fl18 (fun _ h9 => h9) rfl (by decide +kernel) rfl rfl (Nat.le_of_ble_eq_true rfl) dX6_sort_56 (fun H locs hP hD hS => ?_)
                have hP : va_P D vwCl (wl_k_X6_sort cI cJ cK xf f1 f2 (nI (xf_size_22 + 1)) fn g_2) H := hP
                have hD : va_D A (wl_k_X6_sort cI cJ cK xf f1 f2 (nI (xf_size_22 + 1)) fn g_2) := hD
                refine lv_iinc (v := nI (j + 1)) (lv' := [(3, .int (nI (j + 1))), (2, .int (nI w_1)), (1, .int (nI v)), (0, .ref xf)]) hx hb dX6_sort_59 hl (k := 0) rfl (my_incN j 1 (by decide +kernel)) (by decide) rfl (fun ls hl => ?_)
                refine lv_goto (tgt := 22) hx hb dX6_sort_62 (by decide) ?_
                exact ih22  (j + 1) (xf_size_22 + 1) g_2 (by omega) (by first | assumption | omega | decide +kernel) (by first | assumption | omega | decide +kernel) (by first | assumption | omega | decide +kernel) (sr_in hj3 (by assumption) (by omega)) (sr_in2 hj4 (by assumption) (by omega)) (by first | assumption | omega | decide +kernel) _ _ ls hP hD hS (lv_sub hl [0, 1, 2, 3] rfl)
        exact loop22 ((64 - 0) + 1) 0 xf_size_7 f2_7 (Nat.lt_succ_self _) (by first | assumption | omega | decide +kernel) (by first | assumption | omega | decide +kernel) (by first | assumption | omega | decide +kernel) (hs2) (fun q h1 h2 => absurd h2 (by omega)) (by first | assumption | omega | decide +kernel) _ _ ls hP hD hS (lv_sub hl [0, 1, 2, 3] rfl)
  exact loop7 ((256 - 0) + 1) 0 0 fs (Nat.lt_succ_self _) (by first | assumption | omega | decide +kernel) (rfl) (sr_0) (by first | assumption | omega | decide +kernel) _ _ ls hP hD hS (lv_sub hl [0, 1] rfl)
abbrev wl_k_X6_take (cI cJ cK : ClassId) (xf : Nat) (f1 : Nat) (f2 : Nat) (xn : Nat) (v0_ : Int32) (v1_ : Nat → Int32) (v2_ : Nat → Int32) (v3_ : Nat → Int32) : va_W := [(xf, .inr (6, [.ref f1, .ref f2, .int v0_])), (f1, .inl (cI, 512, .inl v1_)), (f2, .inl (cI, 64, .inl v2_)), (xn, .inl (cI, 64, .inl v3_))]
set_option maxHeartbeats 4000000 in
set_option maxRecDepth 100000 in
theorem k_X6_take (l : Launch) (D : va_G) (cI cJ cK : ClassId) (xf : Nat) (f1 : Nat) (f2 : Nat) (xn : Nat) (fz : Nat) (fn : Nat → Int32) (fs : Nat → Int32) (nf : Nat → Int32) (a : Nat) (b : Nat) (hz_fz : fz ≤ 64) (hR_nf : RB 0 255 nf) (hab : a ≤ b) (hb9 : b ≤ 64) : ctV l yX6_take wsX6_take ({ frames := 3, cells := 0, slots := 0, locals := 180 } : Room) D (tyIJ cI cJ cK) [.ref xf, .ref xn, .int (nI a), .int (nI b)] (wl_k_X6_take cI cJ cK xf f1 f2 xn (nI fz) fn fs nf) (fun (u : va_W) => ∃ (fz' : Nat) (fn' : Nat → Int32) (fs' : Nat → Int32), u = (wl_k_X6_take cI cJ cK xf f1 f2 xn (nI fz') fn' fs' nf) ∧ fz' ≤ 64 ∧ (∀ lv, lv ≤ 8 → ∀ h, h < 2 ^ lv → fn' (2 ^ lv + h) = nI (cnl nf lv h a b)) ∧ (∀ v, v < 256 → fn' (256 + v) = nI (cn nf v a b)) ∧ fz' = b - a ∧ SRV fs' (cnF nf a b) 256) := by
  refine ctV.of (cc := cX6_take) (maxL := 6) (ret := none) (by decide) rfl (Nat.le_of_ble_eq_true rfl) ?_
  intro p e s m below meth c ls A hx hb hr hts hown hml hlocks hname hA hK hN hP hD hS hl
  have hl : lv_has ls 6 [(0, .ref xf), (1, .ref xn), (2, .int (nI a)), (3, .int (nI b))] := hl
  have hown : s.vm.findClass RX6 = some m.cls := hown
  have hi6 : ∀ w ∈ u_ws RX6 TX6 3, w ∈ wsX6_take := by decide +kernel
  have fl9 := hts (.fieldLink RX6 9 "PlaneColumn$Tally" "nodes" "[I") (by decide +kernel)
  refine lv_aload_n hx hb dX6_take_0 rfl (lv_at hl 0 rfl) ?_
  refine va_get (ci := 6) (v := .ref f1) (C := RX6) (T := TX6) (N := 3) hx hb hts hi6 hown hK hP 0 rfl rfl 0 (by decide) fl9 (fun _ h9 => h9) rfl dX6_take_1 ?_
  refine lv_iconst (v := 0) hx hb dX6_take_4 (by decide +kernel) ?_
  refine my_goVS (wc := (wl_k_J7_fill_53178 cI cJ cK f1 fn)) hP hD hS hA [1] rfl [none, some 0] (by decide +kernel) (my_cS (As := [.ref f1, .int 0]) (rest := []) (wc := (wl_k_J7_fill_53178 cI cJ cK f1 fn)) ⟨hx, hb, hml, hown, hts⟩ (va_cwS 2 hts gX6_take_J7_fill_53178 rfl rfl rfl (by decide +kernel) ⟨Nat.le_of_ble_eq_true rfl, Nat.le_of_ble_eq_true rfl⟩) hN hK hP hD [1] rfl (by decide) rfl rfl hl.1 rfl (Nat.le_of_ble_eq_true rfl) dX6_take_5 ⟨Nat.le_of_ble_eq_true rfl, Nat.le_of_ble_eq_true rfl⟩  ((k_J7_fill_53178 l D cI cJ cK f1 fn) _)) (fun u H locs hp hPD hS => ?_)
  obtain ⟨f_1, rfl, hfl⟩ := hp
  obtain ⟨hP, hD⟩ := hPD rfl
  have hP : va_P D vwCl (wl_k_X6_take cI cJ cK xf f1 f2 xn (nI fz) f_1 fs nf) H := hP
  have hD : va_D A (wl_k_X6_take cI cJ cK xf f1 f2 xn (nI fz) f_1 fs nf) := hD
  refine lv_iload_n hx hb dX6_take_8 rfl (lv_at hl 2 rfl) ?_
  refine lv_istore (lv' := [(4, .int (nI a)), (0, .ref xf), (1, .ref xn), (2, .int (nI a)), (3, .int (nI b))]) hx hb dX6_take_9 hl (by decide) rfl (fun ls hl => ?_)
  have loop11 : ∀ (n9 : Nat) (k : Nat) (f1_11 : Nat → Int32), b - k < n9 → (k ≤ b) → (a ≤ k) → (ND f1_11 nf a k 0) → ∀ (H : Heap) (locs : List Loc) (ls : Array Slot), va_P D vwCl (wl_k_X6_take cI cJ cK xf f1 f2 xn (nI fz) f1_11 fs nf) H → va_D A (wl_k_X6_take cI cJ cK xf f1 f2 xn (nI fz) f1_11 fs nf) → va_S A s.heap H locs → lv_has ls 6 [(4, .int (nI k)), (0, .ref xf), (1, .ref xn), (2, .int (nI a)), (3, .int (nI b))] → W p l e ({ frames := 3, cells := 0, slots := 0, locals := 180 } : Room) s m [.ref xf, .ref xn, .int (nI a), .int (nI b)].toArray below meth c H locs 0 0 (MQ below (va_Qv (fun (u : va_W) => ∃ (fz' : Nat) (fn' : Nat → Int32) (fs' : Nat → Int32), u = (wl_k_X6_take cI cJ cK xf f1 f2 xn (nI fz') fn' fs' nf) ∧ fz' ≤ 64 ∧ (∀ lv, lv ≤ 8 → ∀ h, h < 2 ^ lv → fn' (2 ^ lv + h) = nI (cnl nf lv h a b)) ∧ (∀ v, v < 256 → fn' (256 + v) = nI (cn nf v a b)) ∧ fz' = b - a ∧ SRV fs' (cnF nf a b) 256) (my_B D (tyIJ cI cJ cK) A) A) [.ref xf, .ref xn, .int (nI a), .int (nI b)].toArray s 0 0 A) (F0 m 11 ls []) := by
    intro n9
    induction n9 with
    | zero =>
      intro k f1_11 hn9
      exact absurd hn9 (Nat.not_lt_zero _)
    | succ n9 ih11 =>
      intro k f1_11 hn9 hk_k hak hNd H locs ls hP hD hS hl
      refine lv_iload hx hb dX6_take_11 (lv_at hl 0 rfl) ?_
      refine lv_iload_n hx hb dX6_take_13 rfl (lv_at hl 4 rfl) ?_
      refine lv_icmp_ge (tgt := 63) hx hb dX6_take_14 (by decide) (fun c14 => ?_) (fun c14 => ?_)
      ·
        have d14 : ((k : Nat) : Int) ≥ ((b : Nat) : Int) := my_ge c14 (nI_toInt (by omega)) (nI_toInt (by omega))
        have hN9 : ∀ lv, lv ≤ 8 → ∀ h, h < 2 ^ lv → f1_11 (2 ^ lv + h) = nI (cnl nf lv h a b) := nd_end (by rw [show b = k from (by omega)]; exact hNd)
        have h89 := nd_8 hR_nf hN9
        have hs9 := cnF_sum hR_nf hab
        refine lv_aload_n hx hb dX6_take_63 rfl (lv_at hl 1 rfl) ?_
        refine my_goVS (wc := (wl_k_X6_sort cI cJ cK xf f1 f2 (nI fz) f1_11 fs)) hP hD hS hA [0, 1, 2] rfl [some 0, some 1, some 2] (by decide +kernel) (my_cV (As := []) (rest := []) (ci := 6) (wc := (wl_k_X6_sort cI cJ cK xf f1 f2 (nI fz) f1_11 fs)) ⟨hx, hb, hml, hown, hts⟩ (cwV 0 hts gX6_take_X6_sort rfl rfl rfl (by decide +kernel) ⟨Nat.le_of_ble_eq_true rfl, Nat.le_of_ble_eq_true rfl⟩) hN hK hP hD [0, 1, 2] rfl (by decide) rfl 0 rfl rfl rfl rfl hl.1 rfl (Nat.le_of_ble_eq_true rfl) dX6_take_64 ⟨Nat.le_of_ble_eq_true rfl, Nat.le_of_ble_eq_true rfl⟩  ((k_X6_sort l D cI cJ cK xf f1 f2 fz f1_11 fs (cnF nf a b) (by first | assumption | omega | decide +kernel) (h89) (by rw [hs9]; omega)) _)) (fun u H locs hp hPD hS => ?_)
        obtain ⟨fz_2, fs_3, rfl, hhz_fz_4, hfz, hsv⟩ := hp
        obtain ⟨hP, hD⟩ := hPD rfl
        have hP : va_P D vwCl (wl_k_X6_take cI cJ cK xf f1 f2 xn (nI fz_2) f1_11 fs_3 nf) H := hP
        have hD : va_D A (wl_k_X6_take cI cJ cK xf f1 f2 xn (nI fz_2) f1_11 fs_3 nf) := hD
        exact my_retV hx hb hr hlocks hK hS (wl_k_X6_take cI cJ cK xf f1 f2 xn (nI fz_2) f1_11 fs_3 nf) hP hD (⟨fz_2, f1_11, fs_3, rfl, (by first | assumption | omega | trivial | decide +kernel), hN9, h89, (by rw [hfz, hs9]), hsv⟩) dX6_take_67
      ·
        have d14 : ((k : Nat) : Int) < ((b : Nat) : Int) := my_nge c14 (nI_toInt (by omega)) (nI_toInt (by omega))
        refine lv_iconst (v := 0) hx hb dX6_take_17 (by decide +kernel) ?_
        refine lv_istore (lv' := [(5, .int 0), (4, .int (nI k)), (0, .ref xf), (1, .ref xn), (2, .int (nI a)), (3, .int (nI b))]) hx hb dX6_take_18 hl (by decide) rfl (fun ls hl => ?_)
        have loop20 : ∀ (n9 : Nat) (j : Nat) (f1_20 : Nat → Int32), 9 - j < n9 → (j ≤ 9) → (ND f1_20 nf a k j) → ∀ (H : Heap) (locs : List Loc) (ls : Array Slot), va_P D vwCl (wl_k_X6_take cI cJ cK xf f1 f2 xn (nI fz) f1_20 fs nf) H → va_D A (wl_k_X6_take cI cJ cK xf f1 f2 xn (nI fz) f1_20 fs nf) → va_S A s.heap H locs → lv_has ls 6 [(5, .int (nI j)), (4, .int (nI k)), (0, .ref xf), (1, .ref xn), (2, .int (nI a)), (3, .int (nI b))] → W p l e ({ frames := 3, cells := 0, slots := 0, locals := 180 } : Room) s m [.ref xf, .ref xn, .int (nI a), .int (nI b)].toArray below meth c H locs 0 0 (MQ below (va_Qv (fun (u : va_W) => ∃ (fz' : Nat) (fn' : Nat → Int32) (fs' : Nat → Int32), u = (wl_k_X6_take cI cJ cK xf f1 f2 xn (nI fz') fn' fs' nf) ∧ fz' ≤ 64 ∧ (∀ lv, lv ≤ 8 → ∀ h, h < 2 ^ lv → fn' (2 ^ lv + h) = nI (cnl nf lv h a b)) ∧ (∀ v, v < 256 → fn' (256 + v) = nI (cn nf v a b)) ∧ fz' = b - a ∧ SRV fs' (cnF nf a b) 256) (my_B D (tyIJ cI cJ cK) A) A) [.ref xf, .ref xn, .int (nI a), .int (nI b)].toArray s 0 0 A) (F0 m 20 ls []) := by
          intro n9
          induction n9 with
          | zero =>
            intro j f1_20 hn9
            exact absurd hn9 (Nat.not_lt_zero _)
          | succ n9 ih20 =>
            intro j f1_20 hn9 hk_j hM H locs ls hP hD hS hl
            refine lv_iload hx hb dX6_take_20 (lv_at hl 0 rfl) ?_
            refine lv_bipush (v := 8) hx hb dX6_take_22 (by decide +kernel) ?_
            refine lv_icmp_gt (tgt := 57) hx hb dX6_take_24 (by decide) (fun c24 => ?_) (fun c24 => ?_)
            ·
              have d24 : ((j : Nat) : Int) > (8 : Int) := my_gt c24 (nI_toInt (by omega)) (by decide +kernel)
              refine lv_iinc (v := nI (k + 1)) (lv' := [(4, .int (nI (k + 1))), (5, .int (nI j)), (0, .ref xf), (1, .ref xn), (2, .int (nI a)), (3, .int (nI b))]) hx hb dX6_take_57 hl (k := 1) rfl (my_incN k 1 (by decide +kernel)) (by decide) rfl (fun ls hl => ?_)
              refine lv_goto (tgt := 11) hx hb dX6_take_60 (by decide) ?_
              exact ih11  (k + 1) f1_20 (by omega) (by first | assumption | omega | decide +kernel) (by first | assumption | omega | decide +kernel) (nd_next (by have e9 : j = 9 := (by omega); rw [e9] at hM; exact hM)) _ _ ls hP hD hS (lv_sub hl [0, 2, 3, 4, 5] rfl)
            ·
              have d24 : ((j : Nat) : Int) ≤ (8 : Int) := my_ngt c24 (nI_toInt (by omega)) (by decide +kernel)
              refine lv_aload_n hx hb dX6_take_27 rfl (lv_at hl 2 rfl) ?_
              refine va_get (ci := 6) (v := .ref f1) (C := RX6) (T := TX6) (N := 3) hx hb hts hi6 hown hK hP 0 rfl rfl 0 (by decide) fl9 (fun _ h9 => h9) rfl dX6_take_28 ?_
              refine lv_iconst (v := 1) hx hb dX6_take_31 (by decide +kernel) ?_
              refine lv_iload hx hb dX6_take_32 (lv_at hl 0 rfl) ?_
              have hp8 := my_pow8 (s := j) (by omega)
              refine lv_ishl hx hb dX6_take_34 ?_
              refine my_eqi (y := nI (2 ^ j)) (my_shl1 (by omega)) ?_
              refine lv_aload_n hx hb dX6_take_35 rfl (lv_at hl 3 rfl) ?_
              refine lv_iload hx hb dX6_take_36 (lv_at hl 1 rfl) ?_
              refine va_iald hx hb hK hP 3 0 rfl rfl (vp_in_nI (by omega) (by omega)) dX6_take_38 ?_
              refine my_eqi (y := nf k) (congrArg nf (nI_clamp (by omega))) ?_
              have hb_5 := hR_nf k
              obtain ⟨w_6, ew_6, hw_6⟩ : ∃ w : Nat, (nf k) = nI w ∧ (w : Int) = (nf k : Int32).toInt := my_natE (by omega)
              refine my_eqi (y := nI w_6) ew_6 ?_
              refine lv_bipush (v := 8) hx hb dX6_take_39 (by decide +kernel) ?_
              refine lv_iload hx hb dX6_take_41 (lv_at hl 0 rfl) ?_
              refine lv_isub hx hb dX6_take_43 ?_
              refine my_eqi (y := nI (8 - j)) (my_subN (a := 8) (b := j) (by omega)) ?_
              refine lv_ishr hx hb dX6_take_44 ?_
              refine my_eqi (y := nI (w_6 / 2 ^ (8 - j))) (my_shrG (by omega) (by omega)) ?_
              refine lv_iadd hx hb dX6_take_45 ?_
              refine my_eqi (y := nI (2 ^ j + (w_6 / 2 ^ (8 - j)))) (nI_add _ _) ?_
              have hdv := Nat.div_le_self w_6 (2 ^ (8 - j))
              refine lv_dup2_11 hx hb dX6_take_46 rfl rfl ?_
              refine va_iald hx hb hK hP 1 0 rfl rfl (vp_in_nI (by omega) (by omega)) dX6_take_47 ?_
              refine my_eqi (y := f1_20 (2 ^ j + (w_6 / 2 ^ (8 - j)))) (congrArg f1_20 (nI_clamp (by omega))) ?_
              refine lv_iconst (v := 1) hx hb dX6_take_48 (by decide +kernel) ?_
              refine lv_iadd hx hb dX6_take_49 ?_
              refine lv_topi (fun z_8 ez_8 => ?_)
              try have tz_8 : z_8.toInt = (f1_20 (2 ^ j + (w_6 / 2 ^ (8 - j)))).toInt + (1 : Int) := by rw [ez_8]; exact my_addI rfl (by decide +kernel) (by omega) (by omega)
              refine va_iast hx hb hK hP hD hS 1 0 rfl rfl (vp_in_nI (by omega) (by omega)) dX6_take_50 (fun H locs hP hD hS => ?_)
              obtain ⟨g_9, eg_9⟩ : ∃ g : Nat → Int32, g = upd f1_20 (2 ^ j + (w_6 / 2 ^ (8 - j))) z_8 := ⟨_, rfl⟩
              have eU : upd f1_20 (nI (2 ^ j + (w_6 / 2 ^ (8 - j))) : Int32).toNatClampNeg z_8 = g_9 := by rw [eg_9, show (nI (2 ^ j + (w_6 / 2 ^ (8 - j))) : Int32).toNatClampNeg = 2 ^ j + (w_6 / 2 ^ (8 - j)) from nI_clamp (by omega)]
              rw [eU] at hP hD
              have hP : va_P D vwCl (wl_k_X6_take cI cJ cK xf f1 f2 xn (nI fz) g_9 fs nf) H := hP
              have hD : va_D A (wl_k_X6_take cI cJ cK xf f1 f2 xn (nI fz) g_9 fs nf) := hD
              refine lv_iinc (v := nI (j + 1)) (lv' := [(5, .int (nI (j + 1))), (4, .int (nI k)), (0, .ref xf), (1, .ref xn), (2, .int (nI a)), (3, .int (nI b))]) hx hb dX6_take_51 hl (k := 0) rfl (my_incN j 1 (by decide +kernel)) (by decide) rfl (fun ls hl => ?_)
              refine lv_goto (tgt := 20) hx hb dX6_take_54 (by decide) ?_
              exact ih20  (j + 1) g_9 (by omega) (by first | assumption | omega | decide +kernel) (nd_step hM (by omega) (by omega) (by assumption) (by omega) (by assumption) (by assumption)) _ _ ls hP hD hS (lv_sub hl [0, 1, 2, 3, 4, 5] rfl)
        exact loop20 ((9 - 0) + 1) 0 f1_11 (Nat.lt_succ_self _) (by first | assumption | omega | decide +kernel) (hNd) _ _ ls hP hD hS (lv_sub hl [0, 1, 2, 3, 4, 5] rfl)
  exact loop11 ((b - a) + 1) a f_1 (Nat.lt_succ_self _) (by first | assumption | omega | decide +kernel) (by first | assumption | omega | decide +kernel) (nd_0 hfl) _ _ ls hP hD hS (lv_sub hl [0, 1, 2, 3, 4] rfl)
set_option maxHeartbeats 4000000 in
set_option maxRecDepth 100000 in
theorem k_X6_nodesWith (l : Launch) (D : va_G) (cI cJ cK : ClassId) (xf : Nat) (f1 : Nat) (f2 : Nat) (fz : Nat) (fn : Nat → Int32) (m9 : Int32) (hz_fz : fz ≤ 64) : cpI l yX6_nodesWith wsX6_nodesWith ({ frames := 0, cells := 0, slots := 0, locals := 0 } : Room) D (tyIJ cI cJ cK) [.ref xf, .int m9] [(xf, .inr (6, [.ref f1, .ref f2, .int (nI fz)])), (f1, .inl (cI, 512, .inl fn))] (fun (r : Int32) => True) := by
  refine cpI.of (cc := cX6_nodesWith) (maxL := 4) (ret := (some .int)) (by decide) rfl (Nat.le_of_ble_eq_true rfl) ?_
  intro p e s m below meth c ls hx hb hr hts hown hml hlocks hname hK hN hP hl
  have hl : lv_has ls 4 [(0, .ref xf), (1, .int m9)] := hl
  have hown : s.vm.findClass RX6 = some m.cls := hown
  have hi6 : ∀ w ∈ u_ws RX6 TX6 3, w ∈ wsX6_nodesWith := by decide +kernel
  have fl9 := hts (.fieldLink RX6 9 "PlaneColumn$Tally" "nodes" "[I") (by decide +kernel)
  refine lv_iconst (v := 0) hx hb dX6_nodesWith_0 (by decide +kernel) ?_
  refine lv_istore_n (lv' := [(2, .int 0), (0, .ref xf), (1, .int m9)]) hx hb dX6_nodesWith_1 rfl hl (by decide) rfl (fun ls hl => ?_)
  refine lv_iconst (v := 1) hx hb dX6_nodesWith_2 (by decide +kernel) ?_
  refine lv_istore_n (lv' := [(3, .int 1), (2, .int 0), (0, .ref xf), (1, .int m9)]) hx hb dX6_nodesWith_3 rfl hl (by decide) rfl (fun ls hl => ?_)
  have loop4 : ∀ (n9 : Nat) (k : Nat) (y2_4 : Int32), 512 - k < n9 → (k ≤ 512) → ∀ (ls : Array Slot), lv_has ls 4 [(3, .int (nI k)), (2, .int y2_4), (0, .ref xf), (1, .int m9)] → W p l e ({ frames := 0, cells := 0, slots := 0, locals := 0 } : Room) s m [.ref xf, .int m9].toArray below meth c s.heap [] 0 0 (MQ below (vp_Si (fun (r : Int32) => True)) [.ref xf, .int m9].toArray s 0 0 (fun _ => False)) (F0 m 4 ls []) := by
    intro n9
    induction n9 with
    | zero =>
      intro k y2_4 hn9
      exact absurd hn9 (Nat.not_lt_zero _)
    | succ n9 ih4 =>
      intro k y2_4 hn9 hk_k ls hl
      refine lv_iload_n hx hb dX6_nodesWith_4 rfl (lv_at hl 0 rfl) ?_
      refine lv_aload_n hx hb dX6_nodesWith_5 rfl (lv_at hl 2 rfl) ?_
      refine va_get (ci := 6) (v := .ref f1) (C := RX6) (T := TX6) (N := 3) hx hb hts hi6 hown hK hP 0 rfl rfl 0 (by decide) fl9 (fun _ h9 => h9) rfl dX6_nodesWith_6 ?_
      refine va_alen (v := 512) hx hb hK hP 1 0 rfl rfl rfl dX6_nodesWith_9 ?_
      refine lv_icmp_ge (tgt := 32) hx hb dX6_nodesWith_10 (by decide) (fun c10 => ?_) (fun c10 => ?_)
      ·
        have d10 : ((k : Nat) : Int) ≥ (512 : Int) := my_ge c10 (nI_toInt (by omega)) (by decide +kernel)
        refine lv_iload_n hx hb dX6_nodesWith_32 rfl (lv_at hl 1 rfl) ?_
        exact my_rpI hx hb hr hlocks (trivial) dX6_nodesWith_33
      ·
        have d10 : ((k : Nat) : Int) < (512 : Int) := my_nge c10 (nI_toInt (by omega)) (by decide +kernel)
        refine lv_aload_n hx hb dX6_nodesWith_13 rfl (lv_at hl 2 rfl) ?_
        refine va_get (ci := 6) (v := .ref f1) (C := RX6) (T := TX6) (N := 3) hx hb hts hi6 hown hK hP 0 rfl rfl 0 (by decide) fl9 (fun _ h9 => h9) rfl dX6_nodesWith_14 ?_
        refine lv_iload_n hx hb dX6_nodesWith_17 rfl (lv_at hl 0 rfl) ?_
        refine va_iald hx hb hK hP 1 0 rfl rfl (vp_in_nI (by omega) (by omega)) dX6_nodesWith_18 ?_
        refine my_eqi (y := fn k) (congrArg fn (nI_clamp (by omega))) ?_
        refine lv_iload_n hx hb dX6_nodesWith_19 rfl (lv_at hl 3 rfl) ?_
        refine lv_icmp_lt (tgt := 26) hx hb dX6_nodesWith_20 (by decide) (fun c20 => ?_) (fun c20 => ?_)
        ·
          have d20 : (fn k).toInt < m9.toInt := my_lt c20 rfl rfl
          refine lv_iinc (v := nI (k + 1)) (lv' := [(3, .int (nI (k + 1))), (2, .int y2_4), (0, .ref xf), (1, .int m9)]) hx hb dX6_nodesWith_26 hl (k := 0) rfl (my_incN k 1 (by decide +kernel)) (by decide) rfl (fun ls hl => ?_)
          refine lv_goto (tgt := 4) hx hb dX6_nodesWith_29 (by decide) ?_
          exact ih4  (k + 1) y2_4 (by omega) (by first | assumption | omega | decide +kernel) ls (lv_sub hl [0, 1, 2, 3] rfl)
        ·
          have d20 : (fn k).toInt ≥ m9.toInt := my_nlt c20 rfl rfl
          obtain ⟨z_2, ez_2⟩ : ∃ y : Int32, y = y2_4 + (1) := ⟨_, rfl⟩
          try have tz_2 : z_2.toInt = y2_4.toInt + (1) := by rw [ez_2]; exact my_addI rfl (by decide +kernel) (by omega) (by omega)
          refine lv_iinc (v := z_2) (lv' := [(2, .int z_2), (3, .int (nI k)), (0, .ref xf), (1, .int m9)]) hx hb dX6_nodesWith_23 hl (k := 1) rfl (by rw [ez_2]; rfl) (by decide) rfl (fun ls hl => ?_)
          refine lv_iinc (v := nI (k + 1)) (lv' := [(3, .int (nI (k + 1))), (2, .int z_2), (0, .ref xf), (1, .int m9)]) hx hb dX6_nodesWith_26 hl (k := 1) rfl (my_incN k 1 (by decide +kernel)) (by decide) rfl (fun ls hl => ?_)
          refine lv_goto (tgt := 4) hx hb dX6_nodesWith_29 (by decide) ?_
          exact ih4  (k + 1) z_2 (by omega) (by first | assumption | omega | decide +kernel) ls (lv_sub hl [0, 1, 2, 3] rfl)
  have ec_3 : (0 : Int32).toInt = 0 := by decide +kernel
  exact loop4 ((512 - 1) + 1) 1 (0 : Int32) (Nat.lt_succ_self _) (by first | assumption | omega | decide +kernel) ls (lv_sub hl [0, 1, 2, 3] rfl)
set_option maxHeartbeats 4000000 in
set_option maxRecDepth 100000 in
theorem k_X6_nodesSharedWith (l : Launch) (D : va_G) (cI cJ cK : ClassId) (xf : Nat) (f1 : Nat) (f2 : Nat) (xs : Nat) (s1 : Nat) (s2 : Nat) (fz : Nat) (fn : Nat → Int32) (sz : Nat) (sn : Nat → Int32) (hz_fz : fz ≤ 64) (hz_sz : sz ≤ 64) : cpI l yX6_nodesSharedWith wsX6_nodesSharedWith ({ frames := 0, cells := 0, slots := 0, locals := 0 } : Room) D (tyIJ cI cJ cK) [.ref xf, .ref xs] [(xf, .inr (6, [.ref f1, .ref f2, .int (nI fz)])), (f1, .inl (cI, 512, .inl fn)), (xs, .inr (6, [.ref s1, .ref s2, .int (nI sz)])), (s1, .inl (cI, 512, .inl sn))] (fun (r : Int32) => True) := by
  refine cpI.of (cc := cX6_nodesSharedWith) (maxL := 4) (ret := (some .int)) (by decide) rfl (Nat.le_of_ble_eq_true rfl) ?_
  intro p e s m below meth c ls hx hb hr hts hown hml hlocks hname hK hN hP hl
  have hl : lv_has ls 4 [(0, .ref xf), (1, .ref xs)] := hl
  have hown : s.vm.findClass RX6 = some m.cls := hown
  have hi6 : ∀ w ∈ u_ws RX6 TX6 3, w ∈ wsX6_nodesSharedWith := by decide +kernel
  have fl9 := hts (.fieldLink RX6 9 "PlaneColumn$Tally" "nodes" "[I") (by decide +kernel)
  refine lv_iconst (v := 0) hx hb dX6_nodesSharedWith_0 (by decide +kernel) ?_
  refine lv_istore_n (lv' := [(2, .int 0), (0, .ref xf), (1, .ref xs)]) hx hb dX6_nodesSharedWith_1 rfl hl (by decide) rfl (fun ls hl => ?_)
  refine lv_iconst (v := 1) hx hb dX6_nodesSharedWith_2 (by decide +kernel) ?_
  refine lv_istore_n (lv' := [(3, .int 1), (2, .int 0), (0, .ref xf), (1, .ref xs)]) hx hb dX6_nodesSharedWith_3 rfl hl (by decide) rfl (fun ls hl => ?_)
  have loop4 : ∀ (n9 : Nat) (k : Nat) (y2_4 : Int32), 512 - k < n9 → (k ≤ 512) → ∀ (ls : Array Slot), lv_has ls 4 [(3, .int (nI k)), (2, .int y2_4), (0, .ref xf), (1, .ref xs)] → W p l e ({ frames := 0, cells := 0, slots := 0, locals := 0 } : Room) s m [.ref xf, .ref xs].toArray below meth c s.heap [] 0 0 (MQ below (vp_Si (fun (r : Int32) => True)) [.ref xf, .ref xs].toArray s 0 0 (fun _ => False)) (F0 m 4 ls []) := by
    intro n9
    induction n9 with
    | zero =>
      intro k y2_4 hn9
      exact absurd hn9 (Nat.not_lt_zero _)
    | succ n9 ih4 =>
      intro k y2_4 hn9 hk_k ls hl
      refine lv_iload_n hx hb dX6_nodesSharedWith_4 rfl (lv_at hl 0 rfl) ?_
      refine lv_aload_n hx hb dX6_nodesSharedWith_5 rfl (lv_at hl 2 rfl) ?_
      refine va_get (ci := 6) (v := .ref f1) (C := RX6) (T := TX6) (N := 3) hx hb hts hi6 hown hK hP 0 rfl rfl 0 (by decide) fl9 (fun _ h9 => h9) rfl dX6_nodesSharedWith_6 ?_
      refine va_alen (v := 512) hx hb hK hP 1 0 rfl rfl rfl dX6_nodesSharedWith_9 ?_
      refine lv_icmp_ge (tgt := 40) hx hb dX6_nodesSharedWith_10 (by decide) (fun c10 => ?_) (fun c10 => ?_)
      ·
        have d10 : ((k : Nat) : Int) ≥ (512 : Int) := my_ge c10 (nI_toInt (by omega)) (by decide +kernel)
        refine lv_iload_n hx hb dX6_nodesSharedWith_40 rfl (lv_at hl 1 rfl) ?_
        exact my_rpI hx hb hr hlocks (trivial) dX6_nodesSharedWith_41
      ·
        have d10 : ((k : Nat) : Int) < (512 : Int) := my_nge c10 (nI_toInt (by omega)) (by decide +kernel)
        refine lv_aload_n hx hb dX6_nodesSharedWith_13 rfl (lv_at hl 2 rfl) ?_
        refine va_get (ci := 6) (v := .ref f1) (C := RX6) (T := TX6) (N := 3) hx hb hts hi6 hown hK hP 0 rfl rfl 0 (by decide) fl9 (fun _ h9 => h9) rfl dX6_nodesSharedWith_14 ?_
        refine lv_iload_n hx hb dX6_nodesSharedWith_17 rfl (lv_at hl 0 rfl) ?_
        refine va_iald hx hb hK hP 1 0 rfl rfl (vp_in_nI (by omega) (by omega)) dX6_nodesSharedWith_18 ?_
        refine my_eqi (y := fn k) (congrArg fn (nI_clamp (by omega))) ?_
        refine lv_if_le (tgt := 34) hx hb dX6_nodesSharedWith_19 (by decide) (fun c19 => ?_) (fun c19 => ?_)
        ·
          have d19 : (fn k).toInt ≤ (0 : Int) := my_le c19 rfl (by decide +kernel)
          refine lv_iinc (v := nI (k + 1)) (lv' := [(3, .int (nI (k + 1))), (2, .int y2_4), (0, .ref xf), (1, .ref xs)]) hx hb dX6_nodesSharedWith_34 hl (k := 0) rfl (my_incN k 1 (by decide +kernel)) (by decide) rfl (fun ls hl => ?_)
          refine lv_goto (tgt := 4) hx hb dX6_nodesSharedWith_37 (by decide) ?_
          exact ih4  (k + 1) y2_4 (by omega) (by first | assumption | omega | decide +kernel) ls (lv_sub hl [0, 1, 2, 3] rfl)
        ·
          have d19 : (fn k).toInt > (0 : Int) := my_nle c19 rfl (by decide +kernel)
          refine lv_aload_n hx hb dX6_nodesSharedWith_22 rfl (lv_at hl 3 rfl) ?_
          refine va_get (ci := 6) (v := .ref s1) (C := RX6) (T := TX6) (N := 3) hx hb hts hi6 hown hK hP 2 rfl rfl 0 (by decide) fl9 (fun _ h9 => h9) rfl dX6_nodesSharedWith_23 ?_
          refine lv_iload_n hx hb dX6_nodesSharedWith_26 rfl (lv_at hl 0 rfl) ?_
          refine va_iald hx hb hK hP 3 0 rfl rfl (vp_in_nI (by omega) (by omega)) dX6_nodesSharedWith_27 ?_
          refine my_eqi (y := sn k) (congrArg sn (nI_clamp (by omega))) ?_
          refine lv_if_le (tgt := 34) hx hb dX6_nodesSharedWith_28 (by decide) (fun c28 => ?_) (fun c28 => ?_)
          ·
            have d28 : (sn k).toInt ≤ (0 : Int) := my_le c28 rfl (by decide +kernel)
            refine lv_iinc (v := nI (k + 1)) (lv' := [(3, .int (nI (k + 1))), (2, .int y2_4), (0, .ref xf), (1, .ref xs)]) hx hb dX6_nodesSharedWith_34 hl (k := 0) rfl (my_incN k 1 (by decide +kernel)) (by decide) rfl (fun ls hl => ?_)
            refine lv_goto (tgt := 4) hx hb dX6_nodesSharedWith_37 (by decide) ?_
            exact ih4  (k + 1) y2_4 (by omega) (by first | assumption | omega | decide +kernel) ls (lv_sub hl [0, 1, 2, 3] rfl)
          ·
            have d28 : (sn k).toInt > (0 : Int) := my_nle c28 rfl (by decide +kernel)
            obtain ⟨z_3, ez_3⟩ : ∃ y : Int32, y = y2_4 + (1) := ⟨_, rfl⟩
            try have tz_3 : z_3.toInt = y2_4.toInt + (1) := by rw [ez_3]; exact my_addI rfl (by decide +kernel) (by omega) (by omega)
            refine lv_iinc (v := z_3) (lv' := [(2, .int z_3), (3, .int (nI k)), (0, .ref xf), (1, .ref xs)]) hx hb dX6_nodesSharedWith_31 hl (k := 1) rfl (by rw [ez_3]; rfl) (by decide) rfl (fun ls hl => ?_)
            refine lv_iinc (v := nI (k + 1)) (lv' := [(3, .int (nI (k + 1))), (2, .int z_3), (0, .ref xf), (1, .ref xs)]) hx hb dX6_nodesSharedWith_34 hl (k := 1) rfl (my_incN k 1 (by decide +kernel)) (by decide) rfl (fun ls hl => ?_)
            refine lv_goto (tgt := 4) hx hb dX6_nodesSharedWith_37 (by decide) ?_
            exact ih4  (k + 1) z_3 (by omega) (by first | assumption | omega | decide +kernel) ls (lv_sub hl [0, 1, 2, 3] rfl)
  have ec_4 : (0 : Int32).toInt = 0 := by decide +kernel
  exact loop4 ((512 - 1) + 1) 1 (0 : Int32) (Nat.lt_succ_self _) (by first | assumption | omega | decide +kernel) ls (lv_sub hl [0, 1, 2, 3] rfl)
set_option maxHeartbeats 4000000 in
set_option maxRecDepth 100000 in
theorem k_X6_isWithin (l : Launch) (D : va_G) (cI cJ cK : ClassId) (a9 : Int32) (b9 : Int32) (cg : Int32) (dg : Int32) : cpI l yX6_isWithin wsX6_isWithin ({ frames := 0, cells := 0, slots := 0, locals := 0 } : Room) D (tyIJ cI cJ cK) [.int a9, .int b9, .int cg, .int dg] [] (fun (r : Int32) => (r = 1) ∨ (r = 0)) := by
  refine cpI.of (cc := cX6_isWithin) (maxL := 4) (ret := (some .boolean)) (by decide) rfl (Nat.le_of_ble_eq_true rfl) ?_
  intro p e s m below meth c ls hx hb hr hts hown hml hlocks hname hK hN hP hl
  have hl : lv_has ls 4 [(0, .int a9), (1, .int b9), (2, .int cg), (3, .int dg)] := hl
  have hown : s.vm.findClass RX6 = some m.cls := hown
  refine lv_iload_n hx hb dX6_isWithin_0 rfl (lv_at hl 0 rfl) ?_
  refine lv_iload_n hx hb dX6_isWithin_1 rfl (lv_at hl 1 rfl) ?_
  refine lv_ishl hx hb dX6_isWithin_2 ?_
  refine lv_topi (fun z_1 ez_1 => ?_)
  refine lv_iload_n hx hb dX6_isWithin_3 rfl (lv_at hl 2 rfl) ?_
  refine lv_icmp_lt (tgt := 22) hx hb dX6_isWithin_4 (by decide) (fun c4 => ?_) (fun c4 => ?_)
  ·
    have d4 : z_1.toInt < cg.toInt := my_lt c4 rfl rfl
    refine lv_iconst (v := 0) hx hb dX6_isWithin_22 (by decide +kernel) ?_
    exact my_rpZ hx hb hr hlocks (by decide +kernel) (Or.inr (rfl)) dX6_isWithin_23
  ·
    have d4 : z_1.toInt ≥ cg.toInt := my_nlt c4 rfl rfl
    refine lv_iload_n hx hb dX6_isWithin_7 rfl (lv_at hl 0 rfl) ?_
    refine lv_iconst (v := 1) hx hb dX6_isWithin_8 (by decide +kernel) ?_
    refine lv_iadd hx hb dX6_isWithin_9 ?_
    refine lv_topi (fun z_2 ez_2 => ?_)
    try have tz_2 : z_2.toInt = a9.toInt + (1 : Int) := by rw [ez_2]; exact my_addI rfl (by decide +kernel) (by omega) (by omega)
    refine lv_iload_n hx hb dX6_isWithin_10 rfl (lv_at hl 1 rfl) ?_
    refine lv_ishl hx hb dX6_isWithin_11 ?_
    refine lv_topi (fun z_3 ez_3 => ?_)
    refine lv_iconst (v := 1) hx hb dX6_isWithin_12 (by decide +kernel) ?_
    refine lv_isub hx hb dX6_isWithin_13 ?_
    refine lv_topi (fun z_4 ez_4 => ?_)
    try have tz_4 : z_4.toInt = z_3.toInt - (1 : Int) := by rw [ez_4]; exact my_subI rfl (by decide +kernel) (by omega) (by omega)
    refine lv_iload_n hx hb dX6_isWithin_14 rfl (lv_at hl 3 rfl) ?_
    refine lv_icmp_gt (tgt := 22) hx hb dX6_isWithin_15 (by decide) (fun c15 => ?_) (fun c15 => ?_)
    ·
      have d15 : z_4.toInt > dg.toInt := my_gt c15 rfl rfl
      refine lv_iconst (v := 0) hx hb dX6_isWithin_22 (by decide +kernel) ?_
      exact my_rpZ hx hb hr hlocks (by decide +kernel) (Or.inr (rfl)) dX6_isWithin_23
    ·
      have d15 : z_4.toInt ≤ dg.toInt := my_ngt c15 rfl rfl
      refine lv_iconst (v := 1) hx hb dX6_isWithin_18 (by decide +kernel) ?_
      refine lv_goto (tgt := 23) hx hb dX6_isWithin_19 (by decide) ?_
      exact my_rpZ hx hb hr hlocks (by decide +kernel) (Or.inl rfl) dX6_isWithin_23
set_option maxHeartbeats 4000000 in
set_option maxRecDepth 100000 in
theorem k_X6_visitsOfBand (l : Launch) (D : va_G) (cI cJ cK : ClassId) (xf : Nat) (f1 : Nat) (f2 : Nat) (fz : Nat) (fn : Nat → Int32) (a : Nat) (b : Nat) (hz_fz : fz ≤ 64) (hab : a ≤ b) (hb9 : b ≤ 255) : cpI l yX6_visitsOfBand wsX6_visitsOfBand ({ frames := 1, cells := 0, slots := 0, locals := 60 } : Room) D (tyIJ cI cJ cK) [.ref xf, .int (nI a), .int (nI b)] [(xf, .inr (6, [.ref f1, .ref f2, .int (nI fz)])), (f1, .inl (cI, 512, .inl fn))] (fun (r : Int32) => True) := by
  refine cpI.of (cc := cX6_visitsOfBand) (maxL := 8) (ret := (some .int)) (by decide) rfl (Nat.le_of_ble_eq_true rfl) ?_
  intro p e s m below meth c ls hx hb hr hts hown hml hlocks hname hK hN hP hl
  have hl : lv_has ls 8 [(0, .ref xf), (1, .int (nI a)), (2, .int (nI b))] := hl
  have hown : s.vm.findClass RX6 = some m.cls := hown
  refine lv_iconst (v := 0) hx hb dX6_visitsOfBand_0 (by decide +kernel) ?_
  refine lv_istore_n (lv' := [(3, .int 0), (0, .ref xf), (1, .int (nI a)), (2, .int (nI b))]) hx hb dX6_visitsOfBand_1 rfl hl (by decide) rfl (fun ls hl => ?_)
  refine lv_iconst (v := 0) hx hb dX6_visitsOfBand_2 (by decide +kernel) ?_
  refine lv_istore (lv' := [(4, .int 0), (3, .int 0), (0, .ref xf), (1, .int (nI a)), (2, .int (nI b))]) hx hb dX6_visitsOfBand_3 hl (by decide) rfl (fun ls hl => ?_)
  have loop5 : ∀ (n9 : Nat) (j : Nat) (y3_5 : Int32), 9 - j < n9 → (j ≤ 9) → ∀ (ls : Array Slot), lv_has ls 8 [(4, .int (nI j)), (3, .int y3_5), (0, .ref xf), (1, .int (nI a)), (2, .int (nI b))] → W p l e ({ frames := 1, cells := 0, slots := 0, locals := 60 } : Room) s m [.ref xf, .int (nI a), .int (nI b)].toArray below meth c s.heap [] 0 0 (MQ below (vp_Si (fun (r : Int32) => True)) [.ref xf, .int (nI a), .int (nI b)].toArray s 0 0 (fun _ => False)) (F0 m 5 ls []) := by
    intro n9
    induction n9 with
    | zero =>
      intro j y3_5 hn9
      exact absurd hn9 (Nat.not_lt_zero _)
    | succ n9 ih5 =>
      intro j y3_5 hn9 hk_j ls hl
      refine lv_iload hx hb dX6_visitsOfBand_5 (lv_at hl 0 rfl) ?_
      refine lv_bipush (v := 8) hx hb dX6_visitsOfBand_7 (by decide +kernel) ?_
      refine lv_icmp_gt (tgt := 93) hx hb dX6_visitsOfBand_9 (by decide) (fun c9 => ?_) (fun c9 => ?_)
      ·
        have d9 : ((j : Nat) : Int) > (8 : Int) := my_gt c9 (nI_toInt (by omega)) (by decide +kernel)
        refine lv_iload_n hx hb dX6_visitsOfBand_93 rfl (lv_at hl 1 rfl) ?_
        exact my_rpI hx hb hr hlocks (trivial) dX6_visitsOfBand_94
      ·
        have d9 : ((j : Nat) : Int) ≤ (8 : Int) := my_ngt c9 (nI_toInt (by omega)) (by decide +kernel)
        refine lv_bipush (v := 8) hx hb dX6_visitsOfBand_12 (by decide +kernel) ?_
        refine lv_iload hx hb dX6_visitsOfBand_14 (lv_at hl 0 rfl) ?_
        refine lv_isub hx hb dX6_visitsOfBand_16 ?_
        refine my_eqi (y := nI (8 - j)) (my_subN (a := 8) (b := j) (by omega)) ?_
        refine lv_istore (lv' := [(5, .int (nI (8 - j))), (4, .int (nI j)), (3, .int y3_5), (0, .ref xf), (1, .int (nI a)), (2, .int (nI b))]) hx hb dX6_visitsOfBand_17 hl (by decide) rfl (fun ls hl => ?_)
        refine lv_iload_n hx hb dX6_visitsOfBand_19 rfl (lv_at hl 4 rfl) ?_
        refine lv_iload hx hb dX6_visitsOfBand_20 (lv_at hl 0 rfl) ?_
        have hd1 := Nat.div_le_self a (2 ^ (8 - j))
        refine lv_ishr hx hb dX6_visitsOfBand_22 ?_
        refine my_eqi (y := nI (a / 2 ^ (8 - j))) (my_shrG (by omega) (by omega)) ?_
        refine lv_istore (lv' := [(6, .int (nI (a / 2 ^ (8 - j)))), (5, .int (nI (8 - j))), (4, .int (nI j)), (3, .int y3_5), (0, .ref xf), (1, .int (nI a)), (2, .int (nI b))]) hx hb dX6_visitsOfBand_23 hl (by decide) rfl (fun ls hl => ?_)
        have loop25 : ∀ (n9 : Nat) (h : Nat) (y3_25 : Int32), 256 - h < n9 → (h ≤ 256) → ∀ (ls : Array Slot), lv_has ls 8 [(6, .int (nI h)), (5, .int (nI (8 - j))), (4, .int (nI j)), (3, .int y3_25), (0, .ref xf), (1, .int (nI a)), (2, .int (nI b))] → W p l e ({ frames := 1, cells := 0, slots := 0, locals := 60 } : Room) s m [.ref xf, .int (nI a), .int (nI b)].toArray below meth c s.heap [] 0 0 (MQ below (vp_Si (fun (r : Int32) => True)) [.ref xf, .int (nI a), .int (nI b)].toArray s 0 0 (fun _ => False)) (F0 m 25 ls []) := by
          intro n9
          induction n9 with
          | zero =>
            intro h y3_25 hn9
            exact absurd hn9 (Nat.not_lt_zero _)
          | succ n9 ih25 =>
            intro h y3_25 hn9 hk_h ls hl
            refine lv_iload hx hb dX6_visitsOfBand_25 (lv_at hl 0 rfl) ?_
            refine lv_iload_n hx hb dX6_visitsOfBand_27 rfl (lv_at hl 6 rfl) ?_
            refine lv_iload hx hb dX6_visitsOfBand_28 (lv_at hl 1 rfl) ?_
            have hd2 := Nat.div_le_self b (2 ^ (8 - j))
            refine lv_ishr hx hb dX6_visitsOfBand_30 ?_
            refine my_eqi (y := nI (b / 2 ^ (8 - j))) (my_shrG (by omega) (by omega)) ?_
            refine lv_icmp_gt (tgt := 87) hx hb dX6_visitsOfBand_31 (by decide) (fun c31 => ?_) (fun c31 => ?_)
            ·
              have d31 : ((h : Nat) : Int) > ((b / 2 ^ (8 - j) : Nat) : Int) := my_gt c31 (nI_toInt (by omega)) (nI_toInt (by omega))
              refine lv_iinc (v := nI (j + 1)) (lv' := [(4, .int (nI (j + 1))), (6, .int (nI h)), (5, .int (nI (8 - j))), (3, .int y3_25), (0, .ref xf), (1, .int (nI a)), (2, .int (nI b))]) hx hb dX6_visitsOfBand_87 hl (k := 2) rfl (my_incN j 1 (by decide +kernel)) (by decide) rfl (fun ls hl => ?_)
              refine lv_goto (tgt := 5) hx hb dX6_visitsOfBand_90 (by decide) ?_
              exact ih5  (j + 1) y3_25 (by omega) (by first | assumption | omega | decide +kernel) ls (lv_sub hl [0, 3, 4, 5, 6] rfl)
            ·
              have d31 : ((h : Nat) : Int) ≤ ((b / 2 ^ (8 - j) : Nat) : Int) := my_ngt c31 (nI_toInt (by omega)) (nI_toInt (by omega))
              refine lv_iload hx hb dX6_visitsOfBand_34 (lv_at hl 2 rfl) ?_
              refine lv_if_eq (tgt := 55) hx hb dX6_visitsOfBand_36 (by decide) (fun c36 => ?_) (fun c36 => ?_)
              ·
                have d36 : ((j : Nat) : Int) = (0 : Int) := my_eq c36 (nI_toInt (by omega)) (by decide +kernel)
                refine lv_iconst (v := 1) hx hb dX6_visitsOfBand_55 (by decide +kernel) ?_
                refine lv_goto (tgt := 60) hx hb dX6_visitsOfBand_56 (by decide) ?_
                refine lv_istore (lv' := [(7, .int 1), (6, .int (nI h)), (5, .int (nI (8 - j))), (4, .int (nI j)), (3, .int y3_25), (0, .ref xf), (1, .int (nI a)), (2, .int (nI b))]) hx hb dX6_visitsOfBand_60 hl (by decide) rfl (fun ls hl => ?_)
                refine lv_iload hx hb dX6_visitsOfBand_62 (lv_at hl 0 rfl) ?_
                refine lv_if_eq (tgt := 81) hx hb dX6_visitsOfBand_64 (by decide) (fun c64 => ?_) (fun c64 => ?_)
                ·
                  exact absurd c64 (by decide +kernel)
                ·
                  refine lv_aload_n hx hb dX6_visitsOfBand_67 rfl (lv_at hl 5 rfl) ?_
                  refine lv_iload hx hb dX6_visitsOfBand_68 (lv_at hl 3 rfl) ?_
                  refine lv_iload hx hb dX6_visitsOfBand_70 (lv_at hl 1 rfl) ?_
                  refine my_gpI (my_pV (As := [.int (nI j), .int (nI h)]) (rest := []) (ci := 6) ⟨hx, hb, hml, hown, hts⟩ (cwV 2 hts gX6_visitsOfBand_X6_inNode rfl rfl rfl (by decide +kernel) ⟨Nat.le_of_ble_eq_true rfl, Nat.le_of_ble_eq_true rfl⟩) hN hK hP [0, 1] rfl 0 rfl rfl rfl rfl hl.1 rfl (Nat.le_of_ble_eq_true rfl) dX6_visitsOfBand_72 ⟨Nat.le_of_ble_eq_true rfl, Nat.le_of_ble_eq_true rfl⟩  (k_X6_inNode l D cI cJ cK xf f1 f2 fz fn j (nI h) (by first | assumption | omega | decide +kernel) (by first | assumption | omega | decide +kernel))) (fun r hp => ?_)
                  obtain _ := hp
                  obtain ⟨r_1, rfl⟩ : ∃ z, z = r := ⟨_, rfl⟩
                  refine lv_if_le (tgt := 81) hx hb dX6_visitsOfBand_75 (by decide) (fun c75 => ?_) (fun c75 => ?_)
                  ·
                    have d75 : r_1.toInt ≤ (0 : Int) := my_le c75 rfl (by decide +kernel)
                    refine lv_iinc (v := nI (h + 1)) (lv' := [(6, .int (nI (h + 1))), (7, .int 1), (5, .int (nI (8 - j))), (4, .int (nI j)), (3, .int y3_25), (0, .ref xf), (1, .int (nI a)), (2, .int (nI b))]) hx hb dX6_visitsOfBand_81 hl (k := 1) rfl (my_incN h 1 (by decide +kernel)) (by decide) rfl (fun ls hl => ?_)
                    refine lv_goto (tgt := 25) hx hb dX6_visitsOfBand_84 (by decide) ?_
                    exact ih25  (h + 1) y3_25 (by omega) (by first | assumption | omega | decide +kernel) ls (lv_sub hl [0, 2, 3, 4, 5, 6, 7] rfl)
                  ·
                    have d75 : r_1.toInt > (0 : Int) := my_nle c75 rfl (by decide +kernel)
                    obtain ⟨z_2, ez_2⟩ : ∃ y : Int32, y = y3_25 + (1) := ⟨_, rfl⟩
                    try have tz_2 : z_2.toInt = y3_25.toInt + (1) := by rw [ez_2]; exact my_addI rfl (by decide +kernel) (by omega) (by omega)
                    refine lv_iinc (v := z_2) (lv' := [(3, .int z_2), (7, .int 1), (6, .int (nI h)), (5, .int (nI (8 - j))), (4, .int (nI j)), (0, .ref xf), (1, .int (nI a)), (2, .int (nI b))]) hx hb dX6_visitsOfBand_78 hl (k := 4) rfl (by rw [ez_2]; rfl) (by decide) rfl (fun ls hl => ?_)
                    refine lv_iinc (v := nI (h + 1)) (lv' := [(6, .int (nI (h + 1))), (3, .int z_2), (7, .int 1), (5, .int (nI (8 - j))), (4, .int (nI j)), (0, .ref xf), (1, .int (nI a)), (2, .int (nI b))]) hx hb dX6_visitsOfBand_81 hl (k := 2) rfl (my_incN h 1 (by decide +kernel)) (by decide) rfl (fun ls hl => ?_)
                    refine lv_goto (tgt := 25) hx hb dX6_visitsOfBand_84 (by decide) ?_
                    exact ih25  (h + 1) z_2 (by omega) (by first | assumption | omega | decide +kernel) ls (lv_sub hl [0, 3, 4, 1, 5, 6, 7] rfl)
              ·
                have d36 : ((j : Nat) : Int) ≠ (0 : Int) := my_ne c36 (nI_toInt (by omega)) (by decide +kernel)
                refine lv_iload hx hb dX6_visitsOfBand_39 (lv_at hl 0 rfl) ?_
                refine lv_iconst (v := 1) hx hb dX6_visitsOfBand_41 (by decide +kernel) ?_
                refine lv_ishr hx hb dX6_visitsOfBand_42 ?_
                refine my_eqi (y := nI (h / 2)) (my_shrG (s := 1) (by omega) (by omega)) ?_
                refine lv_iload hx hb dX6_visitsOfBand_43 (lv_at hl 1 rfl) ?_
                refine lv_iconst (v := 1) hx hb dX6_visitsOfBand_45 (by decide +kernel) ?_
                refine lv_iadd hx hb dX6_visitsOfBand_46 ?_
                refine my_eqi (y := nI (8 - j + 1)) (my_addN (8 - j) 1) ?_
                refine lv_iload_n hx hb dX6_visitsOfBand_47 rfl (lv_at hl 5 rfl) ?_
                refine lv_iload_n hx hb dX6_visitsOfBand_48 rfl (lv_at hl 6 rfl) ?_
                refine my_gpI (my_pS (As := [.int (nI (h / 2)), .int (nI (8 - j + 1)), .int (nI a), .int (nI b)]) (rest := []) ⟨hx, hb, hml, hown, hts⟩ (va_cwS 4 hts gX6_visitsOfBand_X6_isWithin rfl rfl rfl (by decide +kernel) ⟨Nat.le_of_ble_eq_true rfl, Nat.le_of_ble_eq_true rfl⟩) hN hK hP [] rfl rfl hl.1 rfl (Nat.le_of_ble_eq_true rfl) dX6_visitsOfBand_49 ⟨Nat.le_of_ble_eq_true rfl, Nat.le_of_ble_eq_true rfl⟩  (k_X6_isWithin l D cI cJ cK (nI (h / 2)) (nI (8 - j + 1)) (nI a) (nI b))) (fun r hp => ?_)
                rcases hp with rfl | rfl
                ·
                  refine lv_if_ne (tgt := 59) hx hb dX6_visitsOfBand_52 (by decide) (fun c52 => ?_) (fun c52 => ?_)
                  ·
                    refine lv_iconst (v := 0) hx hb dX6_visitsOfBand_59 (by decide +kernel) ?_
                    refine lv_istore (lv' := [(7, .int 0), (6, .int (nI h)), (5, .int (nI (8 - j))), (4, .int (nI j)), (3, .int y3_25), (0, .ref xf), (1, .int (nI a)), (2, .int (nI b))]) hx hb dX6_visitsOfBand_60 hl (by decide) rfl (fun ls hl => ?_)
                    refine lv_iload hx hb dX6_visitsOfBand_62 (lv_at hl 0 rfl) ?_
                    refine lv_if_eq (tgt := 81) hx hb dX6_visitsOfBand_64 (by decide) (fun c64 => ?_) (fun c64 => ?_)
                    ·
                      refine lv_iinc (v := nI (h + 1)) (lv' := [(6, .int (nI (h + 1))), (7, .int 0), (5, .int (nI (8 - j))), (4, .int (nI j)), (3, .int y3_25), (0, .ref xf), (1, .int (nI a)), (2, .int (nI b))]) hx hb dX6_visitsOfBand_81 hl (k := 1) rfl (my_incN h 1 (by decide +kernel)) (by decide) rfl (fun ls hl => ?_)
                      refine lv_goto (tgt := 25) hx hb dX6_visitsOfBand_84 (by decide) ?_
                      exact ih25  (h + 1) y3_25 (by omega) (by first | assumption | omega | decide +kernel) ls (lv_sub hl [0, 2, 3, 4, 5, 6, 7] rfl)
                    ·
                      exact absurd c64 (by decide +kernel)
                  ·
                    exact absurd c52 (by decide +kernel)
                ·
                  refine lv_if_ne (tgt := 59) hx hb dX6_visitsOfBand_52 (by decide) (fun c52 => ?_) (fun c52 => ?_)
                  ·
                    exact absurd c52 (by decide +kernel)
                  ·
                    refine lv_iconst (v := 1) hx hb dX6_visitsOfBand_55 (by decide +kernel) ?_
                    refine lv_goto (tgt := 60) hx hb dX6_visitsOfBand_56 (by decide) ?_
                    refine lv_istore (lv' := [(7, .int 1), (6, .int (nI h)), (5, .int (nI (8 - j))), (4, .int (nI j)), (3, .int y3_25), (0, .ref xf), (1, .int (nI a)), (2, .int (nI b))]) hx hb dX6_visitsOfBand_60 hl (by decide) rfl (fun ls hl => ?_)
                    refine lv_iload hx hb dX6_visitsOfBand_62 (lv_at hl 0 rfl) ?_
                    refine lv_if_eq (tgt := 81) hx hb dX6_visitsOfBand_64 (by decide) (fun c64 => ?_) (fun c64 => ?_)
                    ·
                      exact absurd c64 (by decide +kernel)
                    ·
                      refine lv_aload_n hx hb dX6_visitsOfBand_67 rfl (lv_at hl 5 rfl) ?_
                      refine lv_iload hx hb dX6_visitsOfBand_68 (lv_at hl 3 rfl) ?_
                      refine lv_iload hx hb dX6_visitsOfBand_70 (lv_at hl 1 rfl) ?_
                      refine my_gpI (my_pV (As := [.int (nI j), .int (nI h)]) (rest := []) (ci := 6) ⟨hx, hb, hml, hown, hts⟩ (cwV 2 hts gX6_visitsOfBand_X6_inNode rfl rfl rfl (by decide +kernel) ⟨Nat.le_of_ble_eq_true rfl, Nat.le_of_ble_eq_true rfl⟩) hN hK hP [0, 1] rfl 0 rfl rfl rfl rfl hl.1 rfl (Nat.le_of_ble_eq_true rfl) dX6_visitsOfBand_72 ⟨Nat.le_of_ble_eq_true rfl, Nat.le_of_ble_eq_true rfl⟩  (k_X6_inNode l D cI cJ cK xf f1 f2 fz fn j (nI h) (by first | assumption | omega | decide +kernel) (by first | assumption | omega | decide +kernel))) (fun r hp => ?_)
                      obtain _ := hp
                      obtain ⟨r_3, rfl⟩ : ∃ z, z = r := ⟨_, rfl⟩
                      refine lv_if_le (tgt := 81) hx hb dX6_visitsOfBand_75 (by decide) (fun c75 => ?_) (fun c75 => ?_)
                      ·
                        have d75 : r_3.toInt ≤ (0 : Int) := my_le c75 rfl (by decide +kernel)
                        refine lv_iinc (v := nI (h + 1)) (lv' := [(6, .int (nI (h + 1))), (7, .int 1), (5, .int (nI (8 - j))), (4, .int (nI j)), (3, .int y3_25), (0, .ref xf), (1, .int (nI a)), (2, .int (nI b))]) hx hb dX6_visitsOfBand_81 hl (k := 1) rfl (my_incN h 1 (by decide +kernel)) (by decide) rfl (fun ls hl => ?_)
                        refine lv_goto (tgt := 25) hx hb dX6_visitsOfBand_84 (by decide) ?_
                        exact ih25  (h + 1) y3_25 (by omega) (by first | assumption | omega | decide +kernel) ls (lv_sub hl [0, 2, 3, 4, 5, 6, 7] rfl)
                      ·
                        have d75 : r_3.toInt > (0 : Int) := my_nle c75 rfl (by decide +kernel)
                        obtain ⟨z_4, ez_4⟩ : ∃ y : Int32, y = y3_25 + (1) := ⟨_, rfl⟩
                        try have tz_4 : z_4.toInt = y3_25.toInt + (1) := by rw [ez_4]; exact my_addI rfl (by decide +kernel) (by omega) (by omega)
                        refine lv_iinc (v := z_4) (lv' := [(3, .int z_4), (7, .int 1), (6, .int (nI h)), (5, .int (nI (8 - j))), (4, .int (nI j)), (0, .ref xf), (1, .int (nI a)), (2, .int (nI b))]) hx hb dX6_visitsOfBand_78 hl (k := 4) rfl (by rw [ez_4]; rfl) (by decide) rfl (fun ls hl => ?_)
                        refine lv_iinc (v := nI (h + 1)) (lv' := [(6, .int (nI (h + 1))), (3, .int z_4), (7, .int 1), (5, .int (nI (8 - j))), (4, .int (nI j)), (0, .ref xf), (1, .int (nI a)), (2, .int (nI b))]) hx hb dX6_visitsOfBand_81 hl (k := 2) rfl (my_incN h 1 (by decide +kernel)) (by decide) rfl (fun ls hl => ?_)
                        refine lv_goto (tgt := 25) hx hb dX6_visitsOfBand_84 (by decide) ?_
                        exact ih25  (h + 1) z_4 (by omega) (by first | assumption | omega | decide +kernel) ls (lv_sub hl [0, 3, 4, 1, 5, 6, 7] rfl)
        exact loop25 ((256 - (a / 2 ^ (8 - j))) + 1) (a / 2 ^ (8 - j)) y3_5 (Nat.lt_succ_self _) (by first | assumption | omega | decide +kernel) ls (lv_sub hl [0, 1, 2, 3, 4, 5, 6] rfl)
  have ec_5 : (0 : Int32).toInt = 0 := by decide +kernel
  exact loop5 ((9 - 0) + 1) 0 (0 : Int32) (Nat.lt_succ_self _) (by first | assumption | omega | decide +kernel) ls (lv_sub hl [0, 1, 2, 3, 4] rfl)
abbrev wl_kf_X0_goOn (cI cJ cK : ClassId) (xc : Nat) (c1 : Nat) (c2 : Nat) (v0_ : Int32) (v1_ : Nat → Int32) (v2_ : Nat → Int64) : va_W := [(xc, .inr (0, [.ref c1, .ref c2, .int v0_])), (c1, .inl (cI, 64, .inl v1_)), (c2, .inl (cJ, 64, .inr (.inl v2_)))]
set_option maxHeartbeats 4000000 in
set_option maxRecDepth 100000 in
theorem kf_X0_goOn (l : Launch) (D : va_G) (cI cJ cK : ClassId) (xc : Nat) (c1 : Nat) (c2 : Nat) (cl : Int32) (cg : Nat → Int32) (cw : Nat → Int64) (a : Nat) (b : Nat) (la : Nat) (lb0 : Nat) (ha9 : a < 64) (hb9 : b < 64) (hab : a ≠ b) (hla : cg a = nI la) (hlb : cg b = nI lb0) (hl1 : la ≤ 64) (hl2 : lb0 ≤ 65) : ctV l yX0_goOn wsX0_goOn ({ frames := 0, cells := 0, slots := 0, locals := 0 } : Room) D (tyIJ cI cJ cK) [.ref xc, .int (nI a), .int (nI b)] (wl_kf_X0_goOn cI cJ cK xc c1 c2 cl cg cw) (fun (u : va_W) => (∃ (cw' : Nat → Int64), u = (wl_kf_X0_goOn cI cJ cK xc c1 c2 cl cg cw') ∧ la + 1 ≤ lb0) ∨ (∃ (cg' : Nat → Int32) (cw' : Nat → Int64), u = (wl_kf_X0_goOn cI cJ cK xc c1 c2 cl cg' cw') ∧ cg' = upd cg b (nI (la + 1)) ∧ lb0 < la + 1)) := by
  refine ctV.of (cc := cX0_goOn) (maxL := 4) (ret := none) (by decide) rfl (Nat.le_of_ble_eq_true rfl) ?_
  intro p e s m below meth c ls A hx hb hr hts hown hml hlocks hname hA hK hN hP hD hS hl
  have hl : lv_has ls 4 [(0, .ref xc), (1, .int (nI a)), (2, .int (nI b))] := hl
  have hown : s.vm.findClass RX0 = some m.cls := hown
  have hi0 : ∀ w ∈ u_ws RX0 TX0 3, w ∈ wsX0_goOn := by decide +kernel
  have fl15 := hts (.fieldLink RX0 15 "PlaneColumn$Climbs" "ways" "[J") (by decide +kernel)
  have fl9 := hts (.fieldLink RX0 9 "PlaneColumn$Climbs" "lengths" "[I") (by decide +kernel)
  have hA : (cg a).toInt = (la : Int) := by rw [hla]; exact nI_toInt (by omega)
  have hB : (cg b).toInt = (lb0 : Int) := by rw [hlb]; exact nI_toInt (by omega)
  refine lv_aload_n hx hb dX0_goOn_0 rfl (lv_at hl 0 rfl) ?_
  refine va_get (ci := 0) (v := .ref c1) (C := RX0) (T := TX0) (N := 3) hx hb hts hi0 hown hK hP 0 rfl rfl 0 (by decide) fl9 (fun _ h9 => h9) rfl dX0_goOn_1 ?_
  refine lv_iload_n hx hb dX0_goOn_4 rfl (lv_at hl 1 rfl) ?_
  refine va_iald hx hb hK hP 1 0 rfl rfl (vp_in_nI (by omega) (by omega)) dX0_goOn_5 ?_
  refine my_eqi (y := nI la) ((congrArg cg (nI_clamp (by omega))).trans hla) ?_
  refine lv_iconst (v := 1) hx hb dX0_goOn_6 (by decide +kernel) ?_
  refine lv_iadd hx hb dX0_goOn_7 ?_
  refine my_eqi (y := nI (la + 1)) (my_addN la 1) ?_
  refine lv_istore_n (lv' := [(3, .int (nI (la + 1))), (0, .ref xc), (1, .int (nI a)), (2, .int (nI b))]) hx hb dX0_goOn_8 rfl hl (by decide) rfl (fun ls hl => ?_)
  refine lv_iload_n hx hb dX0_goOn_9 rfl (lv_at hl 0 rfl) ?_
  refine lv_aload_n hx hb dX0_goOn_10 rfl (lv_at hl 1 rfl) ?_
  refine va_get (ci := 0) (v := .ref c1) (C := RX0) (T := TX0) (N := 3) hx hb hts hi0 hown hK hP 0 rfl rfl 0 (by decide) fl9 (fun _ h9 => h9) rfl dX0_goOn_11 ?_
  refine lv_iload_n hx hb dX0_goOn_14 rfl (lv_at hl 3 rfl) ?_
  refine va_iald hx hb hK hP 1 0 rfl rfl (vp_in_nI (by omega) (by omega)) dX0_goOn_15 ?_
  refine my_eqi (y := nI lb0) ((congrArg cg (nI_clamp (by omega))).trans hlb) ?_
  refine lv_icmp_le (tgt := 41) hx hb dX0_goOn_16 (by decide) (fun c16 => ?_) (fun c16 => ?_)
  ·
    have d16 : ((la + 1 : Nat) : Int) ≤ ((lb0 : Nat) : Int) := my_le c16 (nI_toInt (by omega)) (nI_toInt (by omega))
    refine lv_iload_n hx hb dX0_goOn_41 rfl (lv_at hl 0 rfl) ?_
    refine lv_aload_n hx hb dX0_goOn_42 rfl (lv_at hl 1 rfl) ?_
    refine va_get (ci := 0) (v := .ref c1) (C := RX0) (T := TX0) (N := 3) hx hb hts hi0 hown hK hP 0 rfl rfl 0 (by decide) fl9 (fun _ h9 => h9) rfl dX0_goOn_43 ?_
    refine lv_iload_n hx hb dX0_goOn_46 rfl (lv_at hl 3 rfl) ?_
    refine va_iald hx hb hK hP 1 0 rfl rfl (vp_in_nI (by omega) (by omega)) dX0_goOn_47 ?_
    refine my_eqi (y := nI lb0) ((congrArg cg (nI_clamp (by omega))).trans hlb) ?_
    refine lv_icmp_ne (tgt := 66) hx hb dX0_goOn_48 (by decide) (fun c48 => ?_) (fun c48 => ?_)
    ·
      have d48 : ((la + 1 : Nat) : Int) ≠ ((lb0 : Nat) : Int) := my_ne c48 (nI_toInt (by omega)) (nI_toInt (by omega))
      exact my_retV hx hb hr hlocks hK hS (wl_kf_X0_goOn cI cJ cK xc c1 c2 cl cg cw) hP hD (Or.inl ⟨cw, rfl, (by first | assumption | omega | trivial | decide +kernel)⟩) dX0_goOn_66
    ·
      have d48 : ((la + 1 : Nat) : Int) = ((lb0 : Nat) : Int) := my_eq c48 (nI_toInt (by omega)) (nI_toInt (by omega))
      refine lv_aload_n hx hb dX0_goOn_51 rfl (lv_at hl 1 rfl) ?_
      refine va_get (ci := 0) (v := .ref c2) (C := RX0) (T := TX0) (N := 3) hx hb hts hi0 hown hK hP 0 rfl rfl 1 (by decide) fl15 (fun _ h9 => h9) rfl dX0_goOn_52 ?_
      refine lv_iload_n hx hb dX0_goOn_55 rfl (lv_at hl 3 rfl) ?_
      refine lv_dup2_11 hx hb dX0_goOn_56 rfl rfl ?_
      refine va_lald hx hb hK hP 2 1 rfl rfl (vp_in_nI (by omega) (by omega)) dX0_goOn_57 ?_
      refine my_eql (y := cw b) (congrArg cw (nI_clamp (by omega))) ?_
      refine lv_aload_n hx hb dX0_goOn_58 rfl (lv_at hl 1 rfl) ?_
      refine va_get (ci := 0) (v := .ref c2) (C := RX0) (T := TX0) (N := 3) hx hb hts hi0 hown hK hP 0 rfl rfl 1 (by decide) fl15 (fun _ h9 => h9) rfl dX0_goOn_59 ?_
      refine lv_iload_n hx hb dX0_goOn_62 rfl (lv_at hl 2 rfl) ?_
      refine va_lald hx hb hK hP 2 1 rfl rfl (vp_in_nI (by omega) (by omega)) dX0_goOn_63 ?_
      refine my_eql (y := cw a) (congrArg cw (nI_clamp (by omega))) ?_
      refine lv_ladd hx hb dX0_goOn_64 ?_
      refine lv_topl (fun z_3 ez_3 => ?_)
      refine va_last hx hb hK hP hD hS 2 1 rfl rfl (vp_in_nI (by omega) (by omega)) dX0_goOn_65 (fun H locs hP hD hS => ?_)
      obtain ⟨g_4, eg_4⟩ : ∃ g : Nat → Int64, g = vp_updL cw b z_3 := ⟨_, rfl⟩
      have eU : vp_updL cw (nI b : Int32).toNatClampNeg z_3 = g_4 := by rw [eg_4, show (nI b : Int32).toNatClampNeg = b from nI_clamp (by omega)]
      rw [eU] at hP hD
      have hP : va_P D vwCl (wl_kf_X0_goOn cI cJ cK xc c1 c2 cl cg g_4) H := hP
      have hD : va_D A (wl_kf_X0_goOn cI cJ cK xc c1 c2 cl cg g_4) := hD
      exact my_retV hx hb hr hlocks hK hS (wl_kf_X0_goOn cI cJ cK xc c1 c2 cl cg g_4) hP hD (Or.inl ⟨g_4, rfl, (by first | assumption | omega | trivial | decide +kernel)⟩) dX0_goOn_66
  ·
    have d16 : ((la + 1 : Nat) : Int) > ((lb0 : Nat) : Int) := my_nle c16 (nI_toInt (by omega)) (nI_toInt (by omega))
    refine lv_aload_n hx hb dX0_goOn_19 rfl (lv_at hl 1 rfl) ?_
    refine va_get (ci := 0) (v := .ref c1) (C := RX0) (T := TX0) (N := 3) hx hb hts hi0 hown hK hP 0 rfl rfl 0 (by decide) fl9 (fun _ h9 => h9) rfl dX0_goOn_20 ?_
    refine lv_iload_n hx hb dX0_goOn_23 rfl (lv_at hl 3 rfl) ?_
    refine lv_iload_n hx hb dX0_goOn_24 rfl (lv_at hl 0 rfl) ?_
    refine va_iast hx hb hK hP hD hS 1 0 rfl rfl (vp_in_nI (by omega) (by omega)) dX0_goOn_25 (fun H locs hP hD hS => ?_)
    obtain ⟨g_5, eg_5⟩ : ∃ g : Nat → Int32, g = upd cg b (nI (la + 1)) := ⟨_, rfl⟩
    have eU : upd cg (nI b : Int32).toNatClampNeg (nI (la + 1)) = g_5 := by rw [eg_5, show (nI b : Int32).toNatClampNeg = b from nI_clamp (by omega)]
    rw [eU] at hP hD
    have hP : va_P D vwCl (wl_kf_X0_goOn cI cJ cK xc c1 c2 cl g_5 cw) H := hP
    have hD : va_D A (wl_kf_X0_goOn cI cJ cK xc c1 c2 cl g_5 cw) := hD
    refine lv_aload_n hx hb dX0_goOn_26 rfl (lv_at hl 1 rfl) ?_
    refine va_get (ci := 0) (v := .ref c2) (C := RX0) (T := TX0) (N := 3) hx hb hts hi0 hown hK hP 0 rfl rfl 1 (by decide) fl15 (fun _ h9 => h9) rfl dX0_goOn_27 ?_
    refine lv_iload_n hx hb dX0_goOn_30 rfl (lv_at hl 3 rfl) ?_
    refine lv_aload_n hx hb dX0_goOn_31 rfl (lv_at hl 1 rfl) ?_
    refine va_get (ci := 0) (v := .ref c2) (C := RX0) (T := TX0) (N := 3) hx hb hts hi0 hown hK hP 0 rfl rfl 1 (by decide) fl15 (fun _ h9 => h9) rfl dX0_goOn_32 ?_
    refine lv_iload_n hx hb dX0_goOn_35 rfl (lv_at hl 2 rfl) ?_
    refine va_lald hx hb hK hP 2 1 rfl rfl (vp_in_nI (by omega) (by omega)) dX0_goOn_36 ?_
    refine my_eql (y := cw a) (congrArg cw (nI_clamp (by omega))) ?_
    refine va_last hx hb hK hP hD hS 2 1 rfl rfl (vp_in_nI (by omega) (by omega)) dX0_goOn_37 (fun H locs hP hD hS => ?_)
    obtain ⟨g_7, eg_7⟩ : ∃ g : Nat → Int64, g = vp_updL cw b (cw a) := ⟨_, rfl⟩
    have eU : vp_updL cw (nI b : Int32).toNatClampNeg (cw a) = g_7 := by rw [eg_7, show (nI b : Int32).toNatClampNeg = b from nI_clamp (by omega)]
    rw [eU] at hP hD
    have hP : va_P D vwCl (wl_kf_X0_goOn cI cJ cK xc c1 c2 cl g_5 g_7) H := hP
    have hD : va_D A (wl_kf_X0_goOn cI cJ cK xc c1 c2 cl g_5 g_7) := hD
    refine lv_goto (tgt := 66) hx hb dX0_goOn_38 (by decide) ?_
    exact my_retV hx hb hr hlocks hK hS (wl_kf_X0_goOn cI cJ cK xc c1 c2 cl g_5 g_7) hP hD (Or.inr (⟨g_5, g_7, rfl, (by assumption), (by first | assumption | omega | trivial | decide +kernel)⟩)) dX0_goOn_66
abbrev wl_kf_X0_take (cI cJ cK : ClassId) (xc : Nat) (c1 : Nat) (c2 : Nat) (xn : Nat) (v0_ : Int32) (v1_ : Nat → Int32) (v2_ : Nat → Int64) (v3_ : Nat → Int32) : va_W := [(xc, .inr (0, [.ref c1, .ref c2, .int v0_])), (c1, .inl (cI, 64, .inl v1_)), (c2, .inl (cJ, 64, .inr (.inl v2_))), (xn, .inl (cI, 64, .inl v3_))]
set_option maxHeartbeats 4000000 in
set_option maxRecDepth 100000 in
theorem kf_X0_take (l : Launch) (D : va_G) (cI cJ cK : ClassId) (xc : Nat) (c1 : Nat) (c2 : Nat) (xn : Nat) (cl : Int32) (cg : Nat → Int32) (cw : Nat → Int64) (nf : Nat → Int32) (a : Nat) (b : Nat) (hR_nf : RB 0 255 nf) (hab : a ≤ b) (hb9 : b ≤ 64) : ctV l yX0_take wsX0_take ({ frames := 1, cells := 0, slots := 0, locals := 60 } : Room) D (tyIJ cI cJ cK) [.ref xc, .ref xn, .int (nI a), .int (nI b)] (wl_kf_X0_take cI cJ cK xc c1 c2 xn cl cg cw nf) (fun (u : va_W) => ∃ (cl' : Int32) (cg' : Nat → Int32) (cw' : Nat → Int64), u = (wl_kf_X0_take cI cJ cK xc c1 c2 xn cl' cg' cw' nf) ∧ cl'.toInt = ((lmF nf a b : Nat) : Int) ∧ True) := by
  refine ctV.of (cc := cX0_take) (maxL := 6) (ret := none) (by decide) rfl (Nat.le_of_ble_eq_true rfl) ?_
  intro p e s m below meth c ls A hx hb hr hts hown hml hlocks hname hA hK hN hP hD hS hl
  have hl : lv_has ls 6 [(0, .ref xc), (1, .ref xn), (2, .int (nI a)), (3, .int (nI b))] := hl
  have hown : s.vm.findClass RX0 = some m.cls := hown
  have hi0 : ∀ w ∈ u_ws RX0 TX0 3, w ∈ wsX0_take := by decide +kernel
  have fl15 := hts (.fieldLink RX0 15 "PlaneColumn$Climbs" "ways" "[J") (by decide +kernel)
  have fl19 := hts (.fieldLink RX0 19 "PlaneColumn$Climbs" "longest" "I") (by decide +kernel)
  have fl9 := hts (.fieldLink RX0 9 "PlaneColumn$Climbs" "lengths" "[I") (by decide +kernel)
  refine lv_aload_n hx hb dX0_take_0 rfl (lv_at hl 0 rfl) ?_
  refine lv_iconst (v := 0) hx hb dX0_take_1 (by decide +kernel) ?_
  refine va_put (ci := 0) (v := .int 0) (ty := (.int)) (C := RX0) (T := TX0) (N := 3) hx hb hts hi0 tyX0 tyX0_ok nmX0 hown hK hP hD hS 0 rfl rfl 2 (by decide) fl19 (fun _ h9 => h9) rfl (by decide +kernel) rfl rfl (Nat.le_of_ble_eq_true rfl) dX0_take_2 (fun H locs hP hD hS => ?_)
  have hP : va_P D vwCl (wl_kf_X0_take cI cJ cK xc c1 c2 xn 0 cg cw nf) H := hP
  have hD : va_D A (wl_kf_X0_take cI cJ cK xc c1 c2 xn 0 cg cw nf) := hD
  refine lv_iload_n hx hb dX0_take_5 rfl (lv_at hl 2 rfl) ?_
  refine lv_istore (lv' := [(4, .int (nI a)), (0, .ref xc), (1, .ref xn), (2, .int (nI a)), (3, .int (nI b))]) hx hb dX0_take_6 hl (by decide) rfl (fun ls hl => ?_)
  have loop8 : ∀ (n9 : Nat) (k : Nat) (xc_longest_8 : Int32) (c1_8 : Nat → Int32) (c2_8 : Nat → Int64), b - k < n9 → (k ≤ b) → (a ≤ k) → (xc_longest_8.toInt = ((lmF nf a k : Nat) : Int)) → (xc_longest_8.toInt ≤ 64) → (∀ q, a ≤ q → q < k → c1_8 q = nI (LSq nf a q)) → ∀ (H : Heap) (locs : List Loc) (ls : Array Slot), va_P D vwCl (wl_kf_X0_take cI cJ cK xc c1 c2 xn xc_longest_8 c1_8 c2_8 nf) H → va_D A (wl_kf_X0_take cI cJ cK xc c1 c2 xn xc_longest_8 c1_8 c2_8 nf) → va_S A s.heap H locs → lv_has ls 6 [(4, .int (nI k)), (0, .ref xc), (1, .ref xn), (2, .int (nI a)), (3, .int (nI b))] → W p l e ({ frames := 1, cells := 0, slots := 0, locals := 60 } : Room) s m [.ref xc, .ref xn, .int (nI a), .int (nI b)].toArray below meth c H locs 0 0 (MQ below (va_Qv (fun (u : va_W) => ∃ (cl' : Int32) (cg' : Nat → Int32) (cw' : Nat → Int64), u = (wl_kf_X0_take cI cJ cK xc c1 c2 xn cl' cg' cw' nf) ∧ cl'.toInt = ((lmF nf a b : Nat) : Int) ∧ True) (my_B D (tyIJ cI cJ cK) A) A) [.ref xc, .ref xn, .int (nI a), .int (nI b)].toArray s 0 0 A) (F0 m 8 ls []) := by
    intro n9
    induction n9 with
    | zero =>
      intro k xc_longest_8 c1_8 c2_8 hn9
      exact absurd hn9 (Nat.not_lt_zero _)
    | succ n9 ih8 =>
      intro k xc_longest_8 c1_8 c2_8 hn9 hk_k hak hlm hlm6 hls H locs ls hP hD hS hl
      refine lv_iload hx hb dX0_take_8 (lv_at hl 0 rfl) ?_
      refine lv_iload_n hx hb dX0_take_10 rfl (lv_at hl 4 rfl) ?_
      refine lv_icmp_ge (tgt := 89) hx hb dX0_take_11 (by decide) (fun c11 => ?_) (fun c11 => ?_)
      ·
        have d11 : ((k : Nat) : Int) ≥ ((b : Nat) : Int) := my_ge c11 (nI_toInt (by omega)) (nI_toInt (by omega))
        exact my_retV hx hb hr hlocks hK hS (wl_kf_X0_take cI cJ cK xc c1 c2 xn xc_longest_8 c1_8 c2_8 nf) hP hD (⟨xc_longest_8, c1_8, c2_8, rfl, (by rw [show b = k from (by omega)]; exact hlm), (by first | assumption | omega | trivial | decide +kernel)⟩) dX0_take_89
      ·
        have d11 : ((k : Nat) : Int) < ((b : Nat) : Int) := my_nge c11 (nI_toInt (by omega)) (nI_toInt (by omega))
        refine lv_aload_n hx hb dX0_take_14 rfl (lv_at hl 1 rfl) ?_
        refine va_get (ci := 0) (v := .ref c1) (C := RX0) (T := TX0) (N := 3) hx hb hts hi0 hown hK hP 0 rfl rfl 0 (by decide) fl9 (fun _ h9 => h9) rfl dX0_take_15 ?_
        refine lv_iload hx hb dX0_take_18 (lv_at hl 0 rfl) ?_
        refine lv_iconst (v := 1) hx hb dX0_take_20 (by decide +kernel) ?_
        refine va_iast hx hb hK hP hD hS 1 0 rfl rfl (vp_in_nI (by omega) (by omega)) dX0_take_21 (fun H locs hP hD hS => ?_)
        obtain ⟨g_1, eg_1⟩ : ∃ g : Nat → Int32, g = upd c1_8 k 1 := ⟨_, rfl⟩
        have eU : upd c1_8 (nI k : Int32).toNatClampNeg 1 = g_1 := by rw [eg_1, show (nI k : Int32).toNatClampNeg = k from nI_clamp (by omega)]
        rw [eU] at hP hD
        have hP : va_P D vwCl (wl_kf_X0_take cI cJ cK xc c1 c2 xn xc_longest_8 g_1 c2_8 nf) H := hP
        have hD : va_D A (wl_kf_X0_take cI cJ cK xc c1 c2 xn xc_longest_8 g_1 c2_8 nf) := hD
        refine lv_aload_n hx hb dX0_take_22 rfl (lv_at hl 1 rfl) ?_
        refine va_get (ci := 0) (v := .ref c2) (C := RX0) (T := TX0) (N := 3) hx hb hts hi0 hown hK hP 0 rfl rfl 1 (by decide) fl15 (fun _ h9 => h9) rfl dX0_take_23 ?_
        refine lv_iload hx hb dX0_take_26 (lv_at hl 0 rfl) ?_
        refine lv_lconst (v := 1) hx hb dX0_take_28 (by decide +kernel) ?_
        refine va_last hx hb hK hP hD hS 2 1 rfl rfl (vp_in_nI (by omega) (by omega)) dX0_take_29 (fun H locs hP hD hS => ?_)
        obtain ⟨g_2, eg_2⟩ : ∃ g : Nat → Int64, g = vp_updL c2_8 k 1 := ⟨_, rfl⟩
        have eU : vp_updL c2_8 (nI k : Int32).toNatClampNeg 1 = g_2 := by rw [eg_2, show (nI k : Int32).toNatClampNeg = k from nI_clamp (by omega)]
        rw [eU] at hP hD
        have hP : va_P D vwCl (wl_kf_X0_take cI cJ cK xc c1 c2 xn xc_longest_8 g_1 g_2 nf) H := hP
        have hD : va_D A (wl_kf_X0_take cI cJ cK xc c1 c2 xn xc_longest_8 g_1 g_2 nf) := hD
        refine lv_iload_n hx hb dX0_take_30 rfl (lv_at hl 3 rfl) ?_
        refine lv_istore (lv' := [(5, .int (nI a)), (4, .int (nI k)), (0, .ref xc), (1, .ref xn), (2, .int (nI a)), (3, .int (nI b))]) hx hb dX0_take_31 hl (by decide) rfl (fun ls hl => ?_)
        have loop33 : ∀ (n9 : Nat) (j : Nat) (c1_33 : Nat → Int32) (c2_33 : Nat → Int64), k - j < n9 → (j ≤ k) → (a ≤ j) → (c1_33 k = nI (rf (LSq nf a) nf a k j)) → (∀ q, a ≤ q → q < k → c1_33 q = nI (LSq nf a q)) → ∀ (H : Heap) (locs : List Loc) (ls : Array Slot), va_P D vwCl (wl_kf_X0_take cI cJ cK xc c1 c2 xn xc_longest_8 c1_33 c2_33 nf) H → va_D A (wl_kf_X0_take cI cJ cK xc c1 c2 xn xc_longest_8 c1_33 c2_33 nf) → va_S A s.heap H locs → lv_has ls 6 [(5, .int (nI j)), (4, .int (nI k)), (0, .ref xc), (1, .ref xn), (2, .int (nI a)), (3, .int (nI b))] → W p l e ({ frames := 1, cells := 0, slots := 0, locals := 60 } : Room) s m [.ref xc, .ref xn, .int (nI a), .int (nI b)].toArray below meth c H locs 0 0 (MQ below (va_Qv (fun (u : va_W) => ∃ (cl' : Int32) (cg' : Nat → Int32) (cw' : Nat → Int64), u = (wl_kf_X0_take cI cJ cK xc c1 c2 xn cl' cg' cw' nf) ∧ cl'.toInt = ((lmF nf a b : Nat) : Int) ∧ True) (my_B D (tyIJ cI cJ cK) A) A) [.ref xc, .ref xn, .int (nI a), .int (nI b)].toArray s 0 0 A) (F0 m 33 ls []) := by
          intro n9
          induction n9 with
          | zero =>
            intro j c1_33 c2_33 hn9
            exact absurd hn9 (Nat.not_lt_zero _)
          | succ n9 ih33 =>
            intro j c1_33 c2_33 hn9 hk_j haj hck hjs H locs ls hP hD hS hl
            have hrl := rf_LSle (f := nf) (a := a) (p := k) j
            have hll := LS_le (f := nf) (a := a) j
            refine lv_iload hx hb dX0_take_33 (lv_at hl 0 rfl) ?_
            refine lv_iload hx hb dX0_take_35 (lv_at hl 1 rfl) ?_
            refine lv_icmp_ge (tgt := 65) hx hb dX0_take_37 (by decide) (fun c37 => ?_) (fun c37 => ?_)
            ·
              have d37 : ((j : Nat) : Int) ≥ ((k : Nat) : Int) := my_ge c37 (nI_toInt (by omega)) (nI_toInt (by omega))
              have hck9 : c1_33 k = nI (LSq nf a k) := by rw [hck, show j = k from (by omega), ← LS_eq]
              have hls9 := LS_le (f := nf) (a := a) k
              have hcv9 : (c1_33 k).toInt = ((LSq nf a k : Nat) : Int) := by rw [hck9]; exact nI_toInt (by omega)
              have hle9 : LSq nf a k = LSq nf a k := rfl
              refine lv_aload_n hx hb dX0_take_65 rfl (lv_at hl 2 rfl) ?_
              refine lv_aload_n hx hb dX0_take_66 rfl (lv_at hl 2 rfl) ?_
              refine va_get (ci := 0) (v := .int xc_longest_8) (C := RX0) (T := TX0) (N := 3) hx hb hts hi0 hown hK hP 0 rfl rfl 2 (by decide) fl19 (fun _ h9 => h9) rfl dX0_take_67 ?_
              refine lv_aload_n hx hb dX0_take_70 rfl (lv_at hl 2 rfl) ?_
              refine va_get (ci := 0) (v := .ref c1) (C := RX0) (T := TX0) (N := 3) hx hb hts hi0 hown hK hP 0 rfl rfl 0 (by decide) fl9 (fun _ h9 => h9) rfl dX0_take_71 ?_
              refine lv_iload hx hb dX0_take_74 (lv_at hl 1 rfl) ?_
              refine va_iald hx hb hK hP 1 0 rfl rfl (vp_in_nI (by omega) (by omega)) dX0_take_76 ?_
              refine my_eqi (y := c1_33 k) (congrArg c1_33 (nI_clamp (by omega))) ?_
              refine va_mmax hx hb (hml.trans hl.1.symm) hown (hts (.methodLink RX0 27 Lib.Math.max.name) (by decide +kernel)) (hts (.static Lib.Math.max.name) (by decide +kernel)) (hts (.initialized "java/lang/Math") (by decide +kernel)) (hts (.code Lib.Math.max.name Lib.Math.max.code 2 (some .int)) (by decide +kernel)) (Nat.le_of_ble_eq_true rfl) (Nat.le_of_ble_eq_true rfl) (Nat.le_of_ble_eq_true rfl) (Nat.le_of_ble_eq_true rfl) dX0_take_77 ?_
              refine lv_topi (fun z_4 ez_4 => ?_)
              have tz_4 := my_maxI (a := xc_longest_8.toInt) (b := (c1_33 k).toInt) ez_4 rfl rfl
              refine va_put (ci := 0) (v := .int z_4) (ty := (.int)) (C := RX0) (T := TX0) (N := 3) hx hb hts hi0 tyX0 tyX0_ok nmX0 hown hK hP hD hS 0 rfl rfl 2 (by decide) fl19 (fun _ h9 => h9) rfl (by decide +kernel) rfl rfl (Nat.le_of_ble_eq_true rfl) dX0_take_80 (fun H locs hP hD hS => ?_)
              have hP : va_P D vwCl (wl_kf_X0_take cI cJ cK xc c1 c2 xn z_4 c1_33 c2_33 nf) H := hP
              have hD : va_D A (wl_kf_X0_take cI cJ cK xc c1 c2 xn z_4 c1_33 c2_33 nf) := hD
              refine lv_iinc (v := nI (k + 1)) (lv' := [(4, .int (nI (k + 1))), (5, .int (nI j)), (0, .ref xc), (1, .ref xn), (2, .int (nI a)), (3, .int (nI b))]) hx hb dX0_take_83 hl (k := 1) rfl (my_incN k 1 (by decide +kernel)) (by decide) rfl (fun ls hl => ?_)
              refine lv_goto (tgt := 8) hx hb dX0_take_86 (by decide) ?_
              exact ih8  (k + 1) z_4 c1_33 c2_33 (by omega) (by first | assumption | omega | decide +kernel) (by first | assumption | omega | decide +kernel) (lm_s hlm (by omega) hle9 (by omega)) (by first | assumption | omega | decide +kernel) (fun q h1 h2 => by by_cases e9 : q = k; (rw [e9]; exact hck9); (exact hjs q h1 (by omega))) _ _ ls hP hD hS (lv_sub hl [0, 2, 3, 4, 5] rfl)
            ·
              have d37 : ((j : Nat) : Int) < ((k : Nat) : Int) := my_nge c37 (nI_toInt (by omega)) (nI_toInt (by omega))
              refine lv_aload_n hx hb dX0_take_40 rfl (lv_at hl 3 rfl) ?_
              refine lv_iload hx hb dX0_take_41 (lv_at hl 0 rfl) ?_
              refine va_iald hx hb hK hP 3 0 rfl rfl (vp_in_nI (by omega) (by omega)) dX0_take_43 ?_
              refine my_eqi (y := nf j) (congrArg nf (nI_clamp (by omega))) ?_
              have hb_5 := hR_nf j
              refine lv_aload_n hx hb dX0_take_44 rfl (lv_at hl 3 rfl) ?_
              refine lv_iload hx hb dX0_take_45 (lv_at hl 1 rfl) ?_
              refine va_iald hx hb hK hP 3 0 rfl rfl (vp_in_nI (by omega) (by omega)) dX0_take_47 ?_
              refine my_eqi (y := nf k) (congrArg nf (nI_clamp (by omega))) ?_
              have hb_6 := hR_nf k
              refine lv_icmp_ge (tgt := 59) hx hb dX0_take_48 (by decide) (fun c48 => ?_) (fun c48 => ?_)
              ·
                have d48 : (nf j).toInt ≥ (nf k).toInt := my_ge c48 rfl rfl
                refine lv_iinc (v := nI (j + 1)) (lv' := [(5, .int (nI (j + 1))), (4, .int (nI k)), (0, .ref xc), (1, .ref xn), (2, .int (nI a)), (3, .int (nI b))]) hx hb dX0_take_59 hl (k := 0) rfl (my_incN j 1 (by decide +kernel)) (by decide) rfl (fun ls hl => ?_)
                refine lv_goto (tgt := 33) hx hb dX0_take_62 (by decide) ?_
                exact ih33  (j + 1) c1_33 c2_33 (by omega) (by first | assumption | omega | decide +kernel) (by first | assumption | omega | decide +kernel) (by first | exact ri_y hgo rfl (rf_y (t := rf (LSq nf a) nf a k j) rfl haj (by omega) (by omega)) | (rw [← rf_n (t := rf (LSq nf a) nf a k j) rfl (by omega)]; exact hck)) (fun q h1 h2 => by first | exact hjs q h1 h2 | exact ri_o hgo (by omega) (hjs q h1 h2)) _ _ ls hP hD hS (lv_sub hl [0, 1, 2, 3, 4, 5] rfl)
              ·
                have d48 : (nf j).toInt < (nf k).toInt := my_nge c48 rfl rfl
                refine lv_aload_n hx hb dX0_take_51 rfl (lv_at hl 2 rfl) ?_
                refine lv_iload hx hb dX0_take_52 (lv_at hl 0 rfl) ?_
                refine lv_iload hx hb dX0_take_54 (lv_at hl 1 rfl) ?_
                refine my_goVS (wc := (wl_kf_X0_goOn cI cJ cK xc c1 c2 xc_longest_8 c1_33 c2_33)) hP hD hS hA [0, 1, 2] rfl [some 0, some 1, some 2] (by decide +kernel) (my_cV (As := [.int (nI j), .int (nI k)]) (rest := []) (ci := 0) (wc := (wl_kf_X0_goOn cI cJ cK xc c1 c2 xc_longest_8 c1_33 c2_33)) ⟨hx, hb, hml, hown, hts⟩ (cwV 2 hts gX0_take_X0_goOn rfl rfl rfl (by decide +kernel) ⟨Nat.le_of_ble_eq_true rfl, Nat.le_of_ble_eq_true rfl⟩) hN hK hP hD [0, 1, 2] rfl (by decide) rfl 0 rfl rfl rfl rfl hl.1 rfl (Nat.le_of_ble_eq_true rfl) dX0_take_56 ⟨Nat.le_of_ble_eq_true rfl, Nat.le_of_ble_eq_true rfl⟩  ((kf_X0_goOn l D cI cJ cK xc c1 c2 xc_longest_8 c1_33 c2_33 j k (LSq nf a j) (rf (LSq nf a) nf a k j) (by first | assumption | omega | decide +kernel) (by first | assumption | omega | decide +kernel) (by first | assumption | omega | decide +kernel) (hjs j haj (by omega)) (hck) (by first | assumption | omega | decide +kernel) (by first | assumption | omega | decide +kernel)) _)) (fun u H locs hp hPD hS => ?_)
                rcases hp with ⟨cw_7, rfl, ha_8⟩ | ⟨cg_9, cw_10, rfl, hgo, ha_11⟩
                ·
                  obtain ⟨hP, hD⟩ := hPD rfl
                  have hP : va_P D vwCl (wl_kf_X0_take cI cJ cK xc c1 c2 xn xc_longest_8 c1_33 cw_7 nf) H := hP
                  have hD : va_D A (wl_kf_X0_take cI cJ cK xc c1 c2 xn xc_longest_8 c1_33 cw_7 nf) := hD
                  refine lv_iinc (v := nI (j + 1)) (lv' := [(5, .int (nI (j + 1))), (4, .int (nI k)), (0, .ref xc), (1, .ref xn), (2, .int (nI a)), (3, .int (nI b))]) hx hb dX0_take_59 hl (k := 0) rfl (my_incN j 1 (by decide +kernel)) (by decide) rfl (fun ls hl => ?_)
                  refine lv_goto (tgt := 33) hx hb dX0_take_62 (by decide) ?_
                  exact ih33  (j + 1) c1_33 cw_7 (by omega) (by first | assumption | omega | decide +kernel) (by first | assumption | omega | decide +kernel) (by first | exact ri_y hgo rfl (rf_y (t := rf (LSq nf a) nf a k j) rfl haj (by omega) (by omega)) | (rw [← rf_n (t := rf (LSq nf a) nf a k j) rfl (by omega)]; exact hck)) (fun q h1 h2 => by first | exact hjs q h1 h2 | exact ri_o hgo (by omega) (hjs q h1 h2)) _ _ ls hP hD hS (lv_sub hl [0, 1, 2, 3, 4, 5] rfl)
                ·
                  obtain ⟨hP, hD⟩ := hPD rfl
                  have hP : va_P D vwCl (wl_kf_X0_take cI cJ cK xc c1 c2 xn xc_longest_8 cg_9 cw_10 nf) H := hP
                  have hD : va_D A (wl_kf_X0_take cI cJ cK xc c1 c2 xn xc_longest_8 cg_9 cw_10 nf) := hD
                  refine lv_iinc (v := nI (j + 1)) (lv' := [(5, .int (nI (j + 1))), (4, .int (nI k)), (0, .ref xc), (1, .ref xn), (2, .int (nI a)), (3, .int (nI b))]) hx hb dX0_take_59 hl (k := 0) rfl (my_incN j 1 (by decide +kernel)) (by decide) rfl (fun ls hl => ?_)
                  refine lv_goto (tgt := 33) hx hb dX0_take_62 (by decide) ?_
                  exact ih33  (j + 1) cg_9 cw_10 (by omega) (by first | assumption | omega | decide +kernel) (by first | assumption | omega | decide +kernel) (by first | exact ri_y hgo rfl (rf_y (t := rf (LSq nf a) nf a k j) rfl haj (by omega) (by omega)) | (rw [← rf_n (t := rf (LSq nf a) nf a k j) rfl (by omega)]; exact hck)) (fun q h1 h2 => by first | exact hjs q h1 h2 | exact ri_o hgo (by omega) (hjs q h1 h2)) _ _ ls hP hD hS (lv_sub hl [0, 1, 2, 3, 4, 5] rfl)
        exact loop33 ((k - a) + 1) a g_1 g_2 (Nat.lt_succ_self _) (by first | assumption | omega | decide +kernel) (by first | assumption | omega | decide +kernel) (by rw [rf_0 (Nat.le_refl _)]; exact ri_1 (by assumption)) (fun q h1 h2 => ri_o (by assumption) (by omega) (hls q h1 h2)) _ _ ls hP hD hS (lv_sub hl [0, 1, 2, 3, 4, 5] rfl)
  have ec_12 : (0 : Int32).toInt = 0 := by decide +kernel
  exact loop8 ((b - a) + 1) a (0 : Int32) cg cw (Nat.lt_succ_self _) (by first | assumption | omega | decide +kernel) (by first | assumption | omega | decide +kernel) (by rw [lm_0 (Nat.le_refl _)]; rfl) (by first | assumption | omega | decide +kernel) (fun q h1 h2 => absurd h2 (by omega)) _ _ ls hP hD hS (lv_sub hl [0, 1, 2, 3, 4] rfl)
set_option maxHeartbeats 4000000 in
set_option maxRecDepth 100000 in
theorem k_X0_leastEnd (l : Launch) (D : va_G) (cI cJ cK : ClassId) (xc : Nat) (c1 : Nat) (c2 : Nat) (xn : Nat) (cl : Int32) (cg : Nat → Int32) (nf : Nat → Int32) (a : Nat) (b : Nat) (hR_nf : RB 0 255 nf) (hab : a ≤ b) (hb9 : b ≤ 64) : cpI l yX0_leastEnd wsX0_leastEnd ({ frames := 0, cells := 0, slots := 0, locals := 0 } : Room) D (tyIJ cI cJ cK) [.ref xc, .ref xn, .int (nI a), .int (nI b)] [(xc, .inr (0, [.ref c1, .ref c2, .int cl])), (c1, .inl (cI, 64, .inl cg)), (xn, .inl (cI, 64, .inl nf))] (fun (r : Int32) => True) := by
  refine cpI.of (cc := cX0_leastEnd) (maxL := 6) (ret := (some .int)) (by decide) rfl (Nat.le_of_ble_eq_true rfl) ?_
  intro p e s m below meth c ls hx hb hr hts hown hml hlocks hname hK hN hP hl
  have hl : lv_has ls 6 [(0, .ref xc), (1, .ref xn), (2, .int (nI a)), (3, .int (nI b))] := hl
  have hown : s.vm.findClass RX0 = some m.cls := hown
  have hi0 : ∀ w ∈ u_ws RX0 TX0 3, w ∈ wsX0_leastEnd := by decide +kernel
  have fl19 := hts (.fieldLink RX0 19 "PlaneColumn$Climbs" "longest" "I") (by decide +kernel)
  have fl9 := hts (.fieldLink RX0 9 "PlaneColumn$Climbs" "lengths" "[I") (by decide +kernel)
  refine lv_iconst (v := (-1)) hx hb dX0_leastEnd_0 (by decide +kernel) ?_
  refine lv_istore (lv' := [(4, .int (-1)), (0, .ref xc), (1, .ref xn), (2, .int (nI a)), (3, .int (nI b))]) hx hb dX0_leastEnd_1 hl (by decide) rfl (fun ls hl => ?_)
  refine lv_iload_n hx hb dX0_leastEnd_3 rfl (lv_at hl 3 rfl) ?_
  refine lv_istore (lv' := [(5, .int (nI a)), (4, .int (-1)), (0, .ref xc), (1, .ref xn), (2, .int (nI a)), (3, .int (nI b))]) hx hb dX0_leastEnd_4 hl (by decide) rfl (fun ls hl => ?_)
  have loop6 : ∀ (n9 : Nat) (k : Nat) (y4_6 : Int32), b - k < n9 → (k ≤ b) → ∀ (ls : Array Slot), lv_has ls 6 [(5, .int (nI k)), (4, .int y4_6), (0, .ref xc), (1, .ref xn), (2, .int (nI a)), (3, .int (nI b))] → W p l e ({ frames := 0, cells := 0, slots := 0, locals := 0 } : Room) s m [.ref xc, .ref xn, .int (nI a), .int (nI b)].toArray below meth c s.heap [] 0 0 (MQ below (vp_Si (fun (r : Int32) => True)) [.ref xc, .ref xn, .int (nI a), .int (nI b)].toArray s 0 0 (fun _ => False)) (F0 m 6 ls []) := by
    intro n9
    induction n9 with
    | zero =>
      intro k y4_6 hn9
      exact absurd hn9 (Nat.not_lt_zero _)
    | succ n9 ih6 =>
      intro k y4_6 hn9 hk_k ls hl
      refine lv_iload hx hb dX0_leastEnd_6 (lv_at hl 0 rfl) ?_
      refine lv_iload_n hx hb dX0_leastEnd_8 rfl (lv_at hl 5 rfl) ?_
      refine lv_icmp_ge (tgt := 53) hx hb dX0_leastEnd_9 (by decide) (fun c9 => ?_) (fun c9 => ?_)
      ·
        have d9 : ((k : Nat) : Int) ≥ ((b : Nat) : Int) := my_ge c9 (nI_toInt (by omega)) (nI_toInt (by omega))
        refine lv_iload hx hb dX0_leastEnd_53 (lv_at hl 1 rfl) ?_
        exact my_rpI hx hb hr hlocks (trivial) dX0_leastEnd_55
      ·
        have d9 : ((k : Nat) : Int) < ((b : Nat) : Int) := my_nge c9 (nI_toInt (by omega)) (nI_toInt (by omega))
        refine lv_aload_n hx hb dX0_leastEnd_12 rfl (lv_at hl 2 rfl) ?_
        refine va_get (ci := 0) (v := .ref c1) (C := RX0) (T := TX0) (N := 3) hx hb hts hi0 hown hK hP 0 rfl rfl 0 (by decide) fl9 (fun _ h9 => h9) rfl dX0_leastEnd_13 ?_
        refine lv_iload hx hb dX0_leastEnd_16 (lv_at hl 0 rfl) ?_
        refine va_iald hx hb hK hP 1 0 rfl rfl (vp_in_nI (by omega) (by omega)) dX0_leastEnd_18 ?_
        refine my_eqi (y := cg k) (congrArg cg (nI_clamp (by omega))) ?_
        refine lv_aload_n hx hb dX0_leastEnd_19 rfl (lv_at hl 2 rfl) ?_
        refine va_get (ci := 0) (v := .int cl) (C := RX0) (T := TX0) (N := 3) hx hb hts hi0 hown hK hP 0 rfl rfl 2 (by decide) fl19 (fun _ h9 => h9) rfl dX0_leastEnd_20 ?_
        refine lv_icmp_ne (tgt := 47) hx hb dX0_leastEnd_23 (by decide) (fun c23 => ?_) (fun c23 => ?_)
        ·
          have d23 : (cg k).toInt ≠ cl.toInt := my_ne c23 rfl rfl
          refine lv_iinc (v := nI (k + 1)) (lv' := [(5, .int (nI (k + 1))), (4, .int y4_6), (0, .ref xc), (1, .ref xn), (2, .int (nI a)), (3, .int (nI b))]) hx hb dX0_leastEnd_47 hl (k := 0) rfl (my_incN k 1 (by decide +kernel)) (by decide) rfl (fun ls hl => ?_)
          refine lv_goto (tgt := 6) hx hb dX0_leastEnd_50 (by decide) ?_
          exact ih6  (k + 1) y4_6 (by omega) (by first | assumption | omega | decide +kernel) ls (lv_sub hl [0, 1, 2, 3, 4, 5] rfl)
        ·
          have d23 : (cg k).toInt = cl.toInt := my_eq c23 rfl rfl
          refine lv_iload hx hb dX0_leastEnd_26 (lv_at hl 1 rfl) ?_
          refine lv_iconst (v := (-1)) hx hb dX0_leastEnd_28 (by decide +kernel) ?_
          refine lv_icmp_eq (tgt := 41) hx hb dX0_leastEnd_29 (by decide) (fun c29 => ?_) (fun c29 => ?_)
          ·
            have d29 : y4_6.toInt = (-1 : Int) := my_eq c29 rfl (by decide +kernel)
            refine lv_aload_n hx hb dX0_leastEnd_41 rfl (lv_at hl 3 rfl) ?_
            refine lv_iload hx hb dX0_leastEnd_42 (lv_at hl 0 rfl) ?_
            refine va_iald hx hb hK hP 2 0 rfl rfl (vp_in_nI (by omega) (by omega)) dX0_leastEnd_44 ?_
            refine my_eqi (y := nf k) (congrArg nf (nI_clamp (by omega))) ?_
            have hb_2 := hR_nf k
            refine lv_istore (lv' := [(4, .int (nf k)), (5, .int (nI k)), (0, .ref xc), (1, .ref xn), (2, .int (nI a)), (3, .int (nI b))]) hx hb dX0_leastEnd_45 hl (by decide) rfl (fun ls hl => ?_)
            refine lv_iinc (v := nI (k + 1)) (lv' := [(5, .int (nI (k + 1))), (4, .int (nf k)), (0, .ref xc), (1, .ref xn), (2, .int (nI a)), (3, .int (nI b))]) hx hb dX0_leastEnd_47 hl (k := 1) rfl (my_incN k 1 (by decide +kernel)) (by decide) rfl (fun ls hl => ?_)
            refine lv_goto (tgt := 6) hx hb dX0_leastEnd_50 (by decide) ?_
            exact ih6  (k + 1) (nf k) (by omega) (by first | assumption | omega | decide +kernel) ls (lv_sub hl [0, 1, 2, 3, 4, 5] rfl)
          ·
            have d29 : y4_6.toInt ≠ (-1 : Int) := my_ne c29 rfl (by decide +kernel)
            refine lv_aload_n hx hb dX0_leastEnd_32 rfl (lv_at hl 3 rfl) ?_
            refine lv_iload hx hb dX0_leastEnd_33 (lv_at hl 0 rfl) ?_
            refine va_iald hx hb hK hP 2 0 rfl rfl (vp_in_nI (by omega) (by omega)) dX0_leastEnd_35 ?_
            refine my_eqi (y := nf k) (congrArg nf (nI_clamp (by omega))) ?_
            have hb_3 := hR_nf k
            refine lv_iload hx hb dX0_leastEnd_36 (lv_at hl 1 rfl) ?_
            refine lv_icmp_ge (tgt := 47) hx hb dX0_leastEnd_38 (by decide) (fun c38 => ?_) (fun c38 => ?_)
            ·
              have d38 : (nf k).toInt ≥ y4_6.toInt := my_ge c38 rfl rfl
              refine lv_iinc (v := nI (k + 1)) (lv' := [(5, .int (nI (k + 1))), (4, .int y4_6), (0, .ref xc), (1, .ref xn), (2, .int (nI a)), (3, .int (nI b))]) hx hb dX0_leastEnd_47 hl (k := 0) rfl (my_incN k 1 (by decide +kernel)) (by decide) rfl (fun ls hl => ?_)
              refine lv_goto (tgt := 6) hx hb dX0_leastEnd_50 (by decide) ?_
              exact ih6  (k + 1) y4_6 (by omega) (by first | assumption | omega | decide +kernel) ls (lv_sub hl [0, 1, 2, 3, 4, 5] rfl)
            ·
              have d38 : (nf k).toInt < y4_6.toInt := my_nge c38 rfl rfl
              refine lv_aload_n hx hb dX0_leastEnd_41 rfl (lv_at hl 3 rfl) ?_
              refine lv_iload hx hb dX0_leastEnd_42 (lv_at hl 0 rfl) ?_
              refine va_iald hx hb hK hP 2 0 rfl rfl (vp_in_nI (by omega) (by omega)) dX0_leastEnd_44 ?_
              refine my_eqi (y := nf k) (congrArg nf (nI_clamp (by omega))) ?_
              have hb_4 := hR_nf k
              refine lv_istore (lv' := [(4, .int (nf k)), (5, .int (nI k)), (0, .ref xc), (1, .ref xn), (2, .int (nI a)), (3, .int (nI b))]) hx hb dX0_leastEnd_45 hl (by decide) rfl (fun ls hl => ?_)
              refine lv_iinc (v := nI (k + 1)) (lv' := [(5, .int (nI (k + 1))), (4, .int (nf k)), (0, .ref xc), (1, .ref xn), (2, .int (nI a)), (3, .int (nI b))]) hx hb dX0_leastEnd_47 hl (k := 1) rfl (my_incN k 1 (by decide +kernel)) (by decide) rfl (fun ls hl => ?_)
              refine lv_goto (tgt := 6) hx hb dX0_leastEnd_50 (by decide) ?_
              exact ih6  (k + 1) (nf k) (by omega) (by first | assumption | omega | decide +kernel) ls (lv_sub hl [0, 1, 2, 3, 4, 5] rfl)
  have ec_5 : (-1 : Int32).toInt = -1 := by decide +kernel
  exact loop6 ((b - a) + 1) a (-1 : Int32) (Nat.lt_succ_self _) (by first | assumption | omega | decide +kernel) ls (lv_sub hl [0, 1, 2, 3, 4, 5] rfl)
set_option maxHeartbeats 4000000 in
set_option maxRecDepth 100000 in
theorem k_X0_waysToLongest (l : Launch) (D : va_G) (cI cJ cK : ClassId) (xc : Nat) (c1 : Nat) (c2 : Nat) (cl : Int32) (cg : Nat → Int32) (cw : Nat → Int64) (a : Nat) (b : Nat) (hab : a ≤ b) (hb9 : b ≤ 64) : cpL l yX0_waysToLongest wsX0_waysToLongest ({ frames := 0, cells := 0, slots := 0, locals := 0 } : Room) D (tyIJ cI cJ cK) [.ref xc, .int (nI a), .int (nI b)] [(xc, .inr (0, [.ref c1, .ref c2, .int cl])), (c1, .inl (cI, 64, .inl cg)), (c2, .inl (cJ, 64, .inr (.inl cw)))] (fun (r : Int64) => True) := by
  refine cpL.of (cc := cX0_waysToLongest) (maxL := 6) (ret := (some .long)) (by decide) rfl (Nat.le_of_ble_eq_true rfl) ?_
  intro p e s m below meth c ls hx hb hr hts hown hml hlocks hname hK hN hP hl
  have hl : lv_has ls 6 [(0, .ref xc), (1, .int (nI a)), (2, .int (nI b))] := hl
  have hown : s.vm.findClass RX0 = some m.cls := hown
  have hi0 : ∀ w ∈ u_ws RX0 TX0 3, w ∈ wsX0_waysToLongest := by decide +kernel
  have fl15 := hts (.fieldLink RX0 15 "PlaneColumn$Climbs" "ways" "[J") (by decide +kernel)
  have fl19 := hts (.fieldLink RX0 19 "PlaneColumn$Climbs" "longest" "I") (by decide +kernel)
  have fl9 := hts (.fieldLink RX0 9 "PlaneColumn$Climbs" "lengths" "[I") (by decide +kernel)
  refine lv_lconst (v := 0) hx hb dX0_waysToLongest_0 (by decide +kernel) ?_
  refine lv_lstore_n (lv' := [(3, .long 0), (0, .ref xc), (1, .int (nI a)), (2, .int (nI b))]) hx hb dX0_waysToLongest_1 rfl hl (by decide) rfl (fun ls hl => ?_)
  refine lv_iload_n hx hb dX0_waysToLongest_2 rfl (lv_at hl 2 rfl) ?_
  refine lv_istore (lv' := [(5, .int (nI a)), (3, .long 0), (0, .ref xc), (1, .int (nI a)), (2, .int (nI b))]) hx hb dX0_waysToLongest_3 hl (by decide) rfl (fun ls hl => ?_)
  have loop5 : ∀ (n9 : Nat) (k : Nat) (y3_5 : Int64), b - k < n9 → (k ≤ b) → ∀ (ls : Array Slot), lv_has ls 6 [(5, .int (nI k)), (3, .long y3_5), (0, .ref xc), (1, .int (nI a)), (2, .int (nI b))] → W p l e ({ frames := 0, cells := 0, slots := 0, locals := 0 } : Room) s m [.ref xc, .int (nI a), .int (nI b)].toArray below meth c s.heap [] 0 0 (MQ below (vp_Sl (fun (r : Int64) => True)) [.ref xc, .int (nI a), .int (nI b)].toArray s 0 0 (fun _ => False)) (F0 m 5 ls []) := by
    intro n9
    induction n9 with
    | zero =>
      intro k y3_5 hn9
      exact absurd hn9 (Nat.not_lt_zero _)
    | succ n9 ih5 =>
      intro k y3_5 hn9 hk_k ls hl
      refine lv_iload hx hb dX0_waysToLongest_5 (lv_at hl 0 rfl) ?_
      refine lv_iload_n hx hb dX0_waysToLongest_7 rfl (lv_at hl 4 rfl) ?_
      refine lv_icmp_ge (tgt := 41) hx hb dX0_waysToLongest_8 (by decide) (fun c8 => ?_) (fun c8 => ?_)
      ·
        have d8 : ((k : Nat) : Int) ≥ ((b : Nat) : Int) := my_ge c8 (nI_toInt (by omega)) (nI_toInt (by omega))
        refine lv_lload_n hx hb dX0_waysToLongest_41 rfl (lv_at hl 1 rfl) ?_
        exact my_rpL hx hb hr hlocks (trivial) dX0_waysToLongest_42
      ·
        have d8 : ((k : Nat) : Int) < ((b : Nat) : Int) := my_nge c8 (nI_toInt (by omega)) (nI_toInt (by omega))
        refine lv_aload_n hx hb dX0_waysToLongest_11 rfl (lv_at hl 2 rfl) ?_
        refine va_get (ci := 0) (v := .ref c1) (C := RX0) (T := TX0) (N := 3) hx hb hts hi0 hown hK hP 0 rfl rfl 0 (by decide) fl9 (fun _ h9 => h9) rfl dX0_waysToLongest_12 ?_
        refine lv_iload hx hb dX0_waysToLongest_15 (lv_at hl 0 rfl) ?_
        refine va_iald hx hb hK hP 1 0 rfl rfl (vp_in_nI (by omega) (by omega)) dX0_waysToLongest_17 ?_
        refine my_eqi (y := cg k) (congrArg cg (nI_clamp (by omega))) ?_
        refine lv_aload_n hx hb dX0_waysToLongest_18 rfl (lv_at hl 2 rfl) ?_
        refine va_get (ci := 0) (v := .int cl) (C := RX0) (T := TX0) (N := 3) hx hb hts hi0 hown hK hP 0 rfl rfl 2 (by decide) fl19 (fun _ h9 => h9) rfl dX0_waysToLongest_19 ?_
        refine lv_icmp_ne (tgt := 35) hx hb dX0_waysToLongest_22 (by decide) (fun c22 => ?_) (fun c22 => ?_)
        ·
          have d22 : (cg k).toInt ≠ cl.toInt := my_ne c22 rfl rfl
          refine lv_iinc (v := nI (k + 1)) (lv' := [(5, .int (nI (k + 1))), (3, .long y3_5), (0, .ref xc), (1, .int (nI a)), (2, .int (nI b))]) hx hb dX0_waysToLongest_35 hl (k := 0) rfl (my_incN k 1 (by decide +kernel)) (by decide) rfl (fun ls hl => ?_)
          refine lv_goto (tgt := 5) hx hb dX0_waysToLongest_38 (by decide) ?_
          exact ih5  (k + 1) y3_5 (by omega) (by first | assumption | omega | decide +kernel) ls (lv_sub hl [0, 1, 2, 3, 4] rfl)
        ·
          have d22 : (cg k).toInt = cl.toInt := my_eq c22 rfl rfl
          refine lv_lload_n hx hb dX0_waysToLongest_25 rfl (lv_at hl 1 rfl) ?_
          refine lv_aload_n hx hb dX0_waysToLongest_26 rfl (lv_at hl 2 rfl) ?_
          refine va_get (ci := 0) (v := .ref c2) (C := RX0) (T := TX0) (N := 3) hx hb hts hi0 hown hK hP 0 rfl rfl 1 (by decide) fl15 (fun _ h9 => h9) rfl dX0_waysToLongest_27 ?_
          refine lv_iload hx hb dX0_waysToLongest_30 (lv_at hl 0 rfl) ?_
          refine va_lald hx hb hK hP 2 1 rfl rfl (vp_in_nI (by omega) (by omega)) dX0_waysToLongest_32 ?_
          refine my_eql (y := cw k) (congrArg cw (nI_clamp (by omega))) ?_
          refine lv_ladd hx hb dX0_waysToLongest_33 ?_
          refine lv_topl (fun z_3 ez_3 => ?_)
          refine lv_lstore_n (lv' := [(3, .long z_3), (5, .int (nI k)), (0, .ref xc), (1, .int (nI a)), (2, .int (nI b))]) hx hb dX0_waysToLongest_34 rfl hl (by decide) rfl (fun ls hl => ?_)
          refine lv_iinc (v := nI (k + 1)) (lv' := [(5, .int (nI (k + 1))), (3, .long z_3), (0, .ref xc), (1, .int (nI a)), (2, .int (nI b))]) hx hb dX0_waysToLongest_35 hl (k := 1) rfl (my_incN k 1 (by decide +kernel)) (by decide) rfl (fun ls hl => ?_)
          refine lv_goto (tgt := 5) hx hb dX0_waysToLongest_38 (by decide) ?_
          exact ih5  (k + 1) z_3 (by omega) (by first | assumption | omega | decide +kernel) ls (lv_sub hl [0, 1, 2, 3, 4] rfl)
  have ec_4 : (0 : Int64).toInt = 0 := by decide +kernel
  exact loop5 ((b - a) + 1) a (0 : Int64) (Nat.lt_succ_self _) (by first | assumption | omega | decide +kernel) ls (lv_sub hl [0, 1, 2, 3, 4] rfl)
