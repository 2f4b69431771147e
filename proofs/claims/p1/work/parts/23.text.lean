set_option maxHeartbeats 4000000 in
set_option maxRecDepth 100000 in
theorem k0_X5_keep (l : Launch) (D : va_G) (cI cJ : ClassId) (h0 : Nat) (h1 : Nat) (n9 : Int32) : ctI l yX5_keep wsX5_keep ({ frames := 0, cells := 0, slots := 0, locals := 0 } : Room) D (tyIJ cI cJ) [.ref h0, .int n9] [(h0, .inr (5, [.ref h1, .int 0]))] (fun (r : Int32) (u : va_W) => (u = [] ∧ r = 1 ∧ n9.toInt = 0) ∨ (u = [] ∧ r = 0 ∧ (n9.toInt < 0 ∨ 0 < n9.toInt))) := by
  refine ctI.of (cc := cX5_keep) (maxL := 2) (ret := (some .boolean)) (by decide) rfl (Nat.le_of_ble_eq_true rfl) ?_
  intro p e s m below meth c ls A hx hb hr hts hown hml hlocks hname hA hK hN hP hD hS hl
  have hl : lv_has ls 2 [(0, .ref h0), (1, .int n9)] := hl
  have hown : s.vm.findClass RX5 = some m.cls := hown
  have hi5 : ∀ w ∈ u_ws RX5 TX5 2, w ∈ wsX5_keep := by decide +kernel
  have fl13 := hts (.fieldLink RX5 13 "PlaneColumn$Signs" "size" "I") (by decide +kernel)
  refine lv_iload_n hx hb dX5_keep_0 rfl (lv_at hl 1 rfl) ?_
  refine lv_if_lt (tgt := 12) hx hb dX5_keep_1 (by decide) (fun c1 => ?_) (fun c1 => ?_)
  ·
    have d1 : n9.toInt < (0 : Int) := my_lt c1 rfl (by decide +kernel)
    refine lv_iconst (v := 0) hx hb dX5_keep_12 (by decide +kernel) ?_
    exact my_retZ hx hb hr hlocks (by decide +kernel) hK hS [] (hP.sub [] rfl) (hD.sub [] (by decide) rfl) (Or.inr (⟨rfl, rfl, (by first | omega | assumption | trivial | decide +kernel)⟩)) dX5_keep_13
  ·
    have d1 : n9.toInt ≥ (0 : Int) := my_nlt c1 rfl (by decide +kernel)
    refine lv_iload_n hx hb dX5_keep_4 rfl (lv_at hl 1 rfl) ?_
    refine lv_aload_n hx hb dX5_keep_5 rfl (lv_at hl 0 rfl) ?_
    refine va_get (ci := 5) (v := .int 0) (C := RX5) (T := TX5) (N := 2) hx hb hts hi5 hown hK hP 0 rfl rfl 1 (by decide) fl13 (fun _ h9 => h9) rfl dX5_keep_6 ?_
    refine lv_icmp_le (tgt := 14) hx hb dX5_keep_9 (by decide) (fun c9 => ?_) (fun c9 => ?_)
    ·
      have d9 : n9.toInt ≤ (0 : Int) := my_le c9 rfl (by decide +kernel)
      refine lv_aload_n hx hb dX5_keep_14 rfl (lv_at hl 0 rfl) ?_
      refine lv_iload_n hx hb dX5_keep_15 rfl (lv_at hl 1 rfl) ?_
      refine va_put (ci := 5) (v := .int n9) (ty := (.int)) (C := RX5) (T := TX5) (N := 2) hx hb hts hi5 tyX5 tyX5_ok nmX5 hown hK hP hD hS 0 rfl rfl 1 (by decide) fl13 (fun _ h9 => h9) rfl (by decide +kernel) rfl rfl (Nat.le_of_ble_eq_true rfl) dX5_keep_16 (fun H locs hP hD hS => ?_)
      have hP : va_P D vwCl [(h0, .inr (5, [.ref h1, .int n9]))] H := hP
      have hD : va_D A [(h0, .inr (5, [.ref h1, .int n9]))] := hD
      refine lv_iconst (v := 1) hx hb dX5_keep_19 (by decide +kernel) ?_
      exact my_retZ hx hb hr hlocks (by decide +kernel) hK hS [] (hP.sub [] rfl) (hD.sub [] (by decide) rfl) (Or.inl ⟨rfl, rfl, (by first | omega | assumption | trivial | decide +kernel)⟩) dX5_keep_20
    ·
      have d9 : n9.toInt > (0 : Int) := my_nle c9 rfl (by decide +kernel)
      refine lv_iconst (v := 0) hx hb dX5_keep_12 (by decide +kernel) ?_
      exact my_retZ hx hb hr hlocks (by decide +kernel) hK hS [] (hP.sub [] rfl) (hD.sub [] (by decide) rfl) (Or.inr (⟨rfl, rfl, (by first | omega | assumption | trivial | decide +kernel)⟩)) dX5_keep_13
set_option maxHeartbeats 4000000 in
set_option maxRecDepth 100000 in
theorem k00_X5_keep (l : Launch) (D : va_G) (cI cJ : ClassId) (h0 : Nat) (h1 : Nat) : ctI l yX5_keep wsX5_keep ({ frames := 0, cells := 0, slots := 0, locals := 0 } : Room) D (tyIJ cI cJ) [.ref h0, .int 0] [(h0, .inr (5, [.ref h1, .int 0]))] (fun (r : Int32) (u : va_W) => u = [(h0, .inr (5, [.ref h1, .int 0]))] ∧ r = 1) := by
  refine ctI.of (cc := cX5_keep) (maxL := 2) (ret := (some .boolean)) (by decide) rfl (Nat.le_of_ble_eq_true rfl) ?_
  intro p e s m below meth c ls A hx hb hr hts hown hml hlocks hname hA hK hN hP hD hS hl
  have hl : lv_has ls 2 [(0, .ref h0), (1, .int 0)] := hl
  have hown : s.vm.findClass RX5 = some m.cls := hown
  have hi5 : ∀ w ∈ u_ws RX5 TX5 2, w ∈ wsX5_keep := by decide +kernel
  have fl13 := hts (.fieldLink RX5 13 "PlaneColumn$Signs" "size" "I") (by decide +kernel)
  refine lv_iload_n hx hb dX5_keep_0 rfl (lv_at hl 1 rfl) ?_
  refine lv_if_lt (tgt := 12) hx hb dX5_keep_1 (by decide) (fun c1 => ?_) (fun c1 => ?_)
  ·
    exact absurd c1 (by decide +kernel)
  ·
    refine lv_iload_n hx hb dX5_keep_4 rfl (lv_at hl 1 rfl) ?_
    refine lv_aload_n hx hb dX5_keep_5 rfl (lv_at hl 0 rfl) ?_
    refine va_get (ci := 5) (v := .int 0) (C := RX5) (T := TX5) (N := 2) hx hb hts hi5 hown hK hP 0 rfl rfl 1 (by decide) fl13 (fun _ h9 => h9) rfl dX5_keep_6 ?_
    refine lv_icmp_le (tgt := 14) hx hb dX5_keep_9 (by decide) (fun c9 => ?_) (fun c9 => ?_)
    ·
      refine lv_aload_n hx hb dX5_keep_14 rfl (lv_at hl 0 rfl) ?_
      refine lv_iload_n hx hb dX5_keep_15 rfl (lv_at hl 1 rfl) ?_
      refine va_put (ci := 5) (v := .int 0) (ty := (.int)) (C := RX5) (T := TX5) (N := 2) hx hb hts hi5 tyX5 tyX5_ok nmX5 hown hK hP hD hS 0 rfl rfl 1 (by decide) fl13 (fun _ h9 => h9) rfl (by decide +kernel) rfl rfl (Nat.le_of_ble_eq_true rfl) dX5_keep_16 (fun H locs hP hD hS => ?_)
      have hP : va_P D vwCl [(h0, .inr (5, [.ref h1, .int 0]))] H := hP
      have hD : va_D A [(h0, .inr (5, [.ref h1, .int 0]))] := hD
      refine lv_iconst (v := 1) hx hb dX5_keep_19 (by decide +kernel) ?_
      exact my_retZ hx hb hr hlocks (by decide +kernel) hK hS [(h0, .inr (5, [.ref h1, .int 0]))] (hP.sub [0] rfl) (hD.sub [0] (by decide) rfl) (⟨rfl, rfl⟩) dX5_keep_20
    ·
      exact absurd c9 (by decide +kernel)
set_option maxHeartbeats 4000000 in
set_option maxRecDepth 100000 in
theorem k0_X5_at (l : Launch) (D : va_G) (cI cJ : ClassId) (h0 : Nat) (h1 : Nat) (n9 : Int32) : cpI l yX5_at wsX5_at ({ frames := 0, cells := 0, slots := 0, locals := 0 } : Room) D (tyIJ cI cJ) [.ref h0, .int n9] [(h0, .inr (5, [.ref h1, .int 0]))] (fun (r : Int32) => r = (-1)) := by
  refine cpI.of (cc := cX5_at) (maxL := 2) (ret := (some .int)) (by decide) rfl (Nat.le_of_ble_eq_true rfl) ?_
  intro p e s m below meth c ls hx hb hr hts hown hml hlocks hname hK hN hP hl
  have hl : lv_has ls 2 [(0, .ref h0), (1, .int n9)] := hl
  have hown : s.vm.findClass RX5 = some m.cls := hown
  have hi5 : ∀ w ∈ u_ws RX5 TX5 2, w ∈ wsX5_at := by decide +kernel
  have fl13 := hts (.fieldLink RX5 13 "PlaneColumn$Signs" "size" "I") (by decide +kernel)
  refine lv_iload_n hx hb dX5_at_0 rfl (lv_at hl 1 rfl) ?_
  refine lv_if_lt (tgt := 21) hx hb dX5_at_1 (by decide) (fun c1 => ?_) (fun c1 => ?_)
  ·
    have d1 : n9.toInt < (0 : Int) := my_lt c1 rfl (by decide +kernel)
    refine lv_iconst (v := (-1)) hx hb dX5_at_21 (by decide +kernel) ?_
    exact my_rpI hx hb hr hlocks (rfl) dX5_at_22
  ·
    have d1 : n9.toInt ≥ (0 : Int) := my_nlt c1 rfl (by decide +kernel)
    refine lv_iload_n hx hb dX5_at_4 rfl (lv_at hl 1 rfl) ?_
    refine lv_aload_n hx hb dX5_at_5 rfl (lv_at hl 0 rfl) ?_
    refine va_get (ci := 5) (v := .int 0) (C := RX5) (T := TX5) (N := 2) hx hb hts hi5 hown hK hP 0 rfl rfl 1 (by decide) fl13 (fun _ h9 => h9) rfl dX5_at_6 ?_
    refine lv_icmp_ge (tgt := 21) hx hb dX5_at_9 (by decide) (fun c9 => ?_) (fun c9 => ?_)
    ·
      have d9 : n9.toInt ≥ (0 : Int) := my_ge c9 rfl (by decide +kernel)
      refine lv_iconst (v := (-1)) hx hb dX5_at_21 (by decide +kernel) ?_
      exact my_rpI hx hb hr hlocks (rfl) dX5_at_22
    ·
      have d9 : n9.toInt < (0 : Int) := my_nge c9 rfl (by decide +kernel)
      exact absurd d9 (by omega)
set_option maxHeartbeats 4000000 in
set_option maxRecDepth 100000 in
theorem k0_X5_add (l : Launch) (D : va_G) (cI cJ : ClassId) (h0 : Nat) (h1 : Nat) (v9 : Int32) : ctI l yX5_add wsX5_add ({ frames := 0, cells := 0, slots := 0, locals := 0 } : Room) D (tyIJ cI cJ) [.ref h0, .int v9] [(h0, .inr (5, [.ref h1, .int 0])), (h1, .inl (cI, 100, .inl (fun _ => (0 : Int32))))] (fun (r : Int32) (u : va_W) => u = [(h0, .inr (5, [.ref h1, .int 4]))] ∧ r = 1) := by
  refine ctI.of (cc := cX5_add) (maxL := 3) (ret := (some .boolean)) (by decide) rfl (Nat.le_of_ble_eq_true rfl) ?_
  intro p e s m below meth c ls A hx hb hr hts hown hml hlocks hname hA hK hN hP hD hS hl
  have hl : lv_has ls 3 [(0, .ref h0), (1, .int v9)] := hl
  have hown : s.vm.findClass RX5 = some m.cls := hown
  have hi5 : ∀ w ∈ u_ws RX5 TX5 2, w ∈ wsX5_add := by decide +kernel
  have fl13 := hts (.fieldLink RX5 13 "PlaneColumn$Signs" "size" "I") (by decide +kernel)
  have fl9 := hts (.fieldLink RX5 9 "PlaneColumn$Signs" "codes" "[I") (by decide +kernel)
  refine lv_aload_n hx hb dX5_add_0 rfl (lv_at hl 0 rfl) ?_
  refine va_get (ci := 5) (v := .int 0) (C := RX5) (T := TX5) (N := 2) hx hb hts hi5 hown hK hP 0 rfl rfl 1 (by decide) fl13 (fun _ h9 => h9) rfl dX5_add_1 ?_
  refine lv_iconst (v := 4) hx hb dX5_add_4 (by decide +kernel) ?_
  refine lv_iadd hx hb dX5_add_5 ?_
  refine my_eqi (y := 4) (by decide +kernel) ?_
  refine lv_bipush (v := 100) hx hb dX5_add_6 (by decide +kernel) ?_
  refine lv_icmp_le (tgt := 13) hx hb dX5_add_8 (by decide) (fun c8 => ?_) (fun c8 => ?_)
  ·
    refine lv_iconst (v := 3) hx hb dX5_add_13 (by decide +kernel) ?_
    refine lv_istore_n (lv' := [(2, .int 3), (0, .ref h0), (1, .int v9)]) hx hb dX5_add_14 rfl hl (by decide) rfl (fun ls hl => ?_)
    refine lv_iload_n hx hb dX5_add_15 rfl (lv_at hl 0 rfl) ?_
    refine lv_if_lt (tgt := 54) hx hb dX5_add_16 (by decide) (fun c16 => ?_) (fun c16 => ?_)
    ·
      exact absurd c16 (by decide +kernel)
    ·
      refine lv_aload_n hx hb dX5_add_19 rfl (lv_at hl 1 rfl) ?_
      refine va_get (ci := 5) (v := .ref h1) (C := RX5) (T := TX5) (N := 2) hx hb hts hi5 hown hK hP 0 rfl rfl 0 (by decide) fl9 (fun _ h9 => h9) rfl dX5_add_20 ?_
      refine lv_aload_n hx hb dX5_add_23 rfl (lv_at hl 1 rfl) ?_
      refine va_get (ci := 5) (v := .int 0) (C := RX5) (T := TX5) (N := 2) hx hb hts hi5 hown hK hP 0 rfl rfl 1 (by decide) fl13 (fun _ h9 => h9) rfl dX5_add_24 ?_
      refine lv_iload_n hx hb dX5_add_27 rfl (lv_at hl 2 rfl) ?_
      refine lv_bipush (v := 8) hx hb dX5_add_28 (by decide +kernel) ?_
      refine lv_iload_n hx hb dX5_add_30 rfl (lv_at hl 0 rfl) ?_
      refine lv_imul hx hb dX5_add_31 ?_
      refine my_eqi (y := 24) (by decide +kernel) ?_
      obtain ⟨z_1, ez_1⟩ : ∃ z : Int32, (v9.toUInt32 >>> ((24 : Int32).toUInt32 &&& Int32.toUInt32 31)).toInt32 = z := ⟨_, rfl⟩
      refine lv_iushr hx hb dX5_add_32 ez_1 ?_
      refine lv_sipush (v := 255) hx hb dX5_add_33 (by decide +kernel) ?_
      refine lv_iand hx hb dX5_add_36 ?_
      refine lv_topi (fun z_2 ez_2 => ?_)
      refine va_iast hx hb hK hP hD hS 1 0 rfl rfl (vp_in_nI (n := 0) (by omega) (by omega)) dX5_add_37 (fun H locs hP hD hS => ?_)
      have eU : upd (fun _ => (0 : Int32)) (0 : Int32).toNatClampNeg z_2 = upd (fun _ => (0 : Int32)) 0 z_2 := by rw [show (0 : Int32).toNatClampNeg = 0 from by decide +kernel]
      rw [eU] at hP hD
      have hP : va_P D vwCl [(h0, .inr (5, [.ref h1, .int 0])), (h1, .inl (cI, 100, .inl (upd (fun _ => (0 : Int32)) 0 z_2)))] H := hP
      have hD : va_D A [(h0, .inr (5, [.ref h1, .int 0])), (h1, .inl (cI, 100, .inl (upd (fun _ => (0 : Int32)) 0 z_2)))] := hD
      refine lv_aload_n hx hb dX5_add_38 rfl (lv_at hl 1 rfl) ?_
      refine lv_dup hx hb dX5_add_39 rfl ?_
      refine va_get (ci := 5) (v := .int 0) (C := RX5) (T := TX5) (N := 2) hx hb hts hi5 hown hK hP 0 rfl rfl 1 (by decide) fl13 (fun _ h9 => h9) rfl dX5_add_40 ?_
      refine lv_iconst (v := 1) hx hb dX5_add_43 (by decide +kernel) ?_
      refine lv_iadd hx hb dX5_add_44 ?_
      refine my_eqi (y := 1) (by decide +kernel) ?_
      refine va_put (ci := 5) (v := .int 1) (ty := (.int)) (C := RX5) (T := TX5) (N := 2) hx hb hts hi5 tyX5 tyX5_ok nmX5 hown hK hP hD hS 0 rfl rfl 1 (by decide) fl13 (fun _ h9 => h9) rfl (by decide +kernel) rfl rfl (Nat.le_of_ble_eq_true rfl) dX5_add_45 (fun H locs hP hD hS => ?_)
      have hP : va_P D vwCl [(h0, .inr (5, [.ref h1, .int 1])), (h1, .inl (cI, 100, .inl (upd (fun _ => (0 : Int32)) 0 z_2)))] H := hP
      have hD : va_D A [(h0, .inr (5, [.ref h1, .int 1])), (h1, .inl (cI, 100, .inl (upd (fun _ => (0 : Int32)) 0 z_2)))] := hD
      refine lv_iinc (v := 2) (lv' := [(2, .int 2), (0, .ref h0), (1, .int v9)]) hx hb dX5_add_48 hl (k := 0) rfl (by decide +kernel) (by decide) rfl (fun ls hl => ?_)
      refine lv_goto (tgt := 15) hx hb dX5_add_51 (by decide) ?_
      refine lv_iload_n hx hb dX5_add_15 rfl (lv_at hl 0 rfl) ?_
      refine lv_if_lt (tgt := 54) hx hb dX5_add_16 (by decide) (fun c16 => ?_) (fun c16 => ?_)
      ·
        exact absurd c16 (by decide +kernel)
      ·
        refine lv_aload_n hx hb dX5_add_19 rfl (lv_at hl 1 rfl) ?_
        refine va_get (ci := 5) (v := .ref h1) (C := RX5) (T := TX5) (N := 2) hx hb hts hi5 hown hK hP 0 rfl rfl 0 (by decide) fl9 (fun _ h9 => h9) rfl dX5_add_20 ?_
        refine lv_aload_n hx hb dX5_add_23 rfl (lv_at hl 1 rfl) ?_
        refine va_get (ci := 5) (v := .int 1) (C := RX5) (T := TX5) (N := 2) hx hb hts hi5 hown hK hP 0 rfl rfl 1 (by decide) fl13 (fun _ h9 => h9) rfl dX5_add_24 ?_
        refine lv_iload_n hx hb dX5_add_27 rfl (lv_at hl 2 rfl) ?_
        refine lv_bipush (v := 8) hx hb dX5_add_28 (by decide +kernel) ?_
        refine lv_iload_n hx hb dX5_add_30 rfl (lv_at hl 0 rfl) ?_
        refine lv_imul hx hb dX5_add_31 ?_
        refine my_eqi (y := 16) (by decide +kernel) ?_
        obtain ⟨z_3, ez_3⟩ : ∃ z : Int32, (v9.toUInt32 >>> ((16 : Int32).toUInt32 &&& Int32.toUInt32 31)).toInt32 = z := ⟨_, rfl⟩
        refine lv_iushr hx hb dX5_add_32 ez_3 ?_
        refine lv_sipush (v := 255) hx hb dX5_add_33 (by decide +kernel) ?_
        refine lv_iand hx hb dX5_add_36 ?_
        refine lv_topi (fun z_4 ez_4 => ?_)
        refine va_iast hx hb hK hP hD hS 1 0 rfl rfl (vp_in_nI (n := 1) (by omega) (by omega)) dX5_add_37 (fun H locs hP hD hS => ?_)
        have eU : upd (upd (fun _ => (0 : Int32)) 0 z_2) (1 : Int32).toNatClampNeg z_4 = upd (upd (fun _ => (0 : Int32)) 0 z_2) 1 z_4 := by rw [show (1 : Int32).toNatClampNeg = 1 from by decide +kernel]
        rw [eU] at hP hD
        have hP : va_P D vwCl [(h0, .inr (5, [.ref h1, .int 1])), (h1, .inl (cI, 100, .inl (upd (upd (fun _ => (0 : Int32)) 0 z_2) 1 z_4)))] H := hP
        have hD : va_D A [(h0, .inr (5, [.ref h1, .int 1])), (h1, .inl (cI, 100, .inl (upd (upd (fun _ => (0 : Int32)) 0 z_2) 1 z_4)))] := hD
        refine lv_aload_n hx hb dX5_add_38 rfl (lv_at hl 1 rfl) ?_
        refine lv_dup hx hb dX5_add_39 rfl ?_
        refine va_get (ci := 5) (v := .int 1) (C := RX5) (T := TX5) (N := 2) hx hb hts hi5 hown hK hP 0 rfl rfl 1 (by decide) fl13 (fun _ h9 => h9) rfl dX5_add_40 ?_
        refine lv_iconst (v := 1) hx hb dX5_add_43 (by decide +kernel) ?_
        refine lv_iadd hx hb dX5_add_44 ?_
        refine my_eqi (y := 2) (by decide +kernel) ?_
        refine va_put (ci := 5) (v := .int 2) (ty := (.int)) (C := RX5) (T := TX5) (N := 2) hx hb hts hi5 tyX5 tyX5_ok nmX5 hown hK hP hD hS 0 rfl rfl 1 (by decide) fl13 (fun _ h9 => h9) rfl (by decide +kernel) rfl rfl (Nat.le_of_ble_eq_true rfl) dX5_add_45 (fun H locs hP hD hS => ?_)
        have hP : va_P D vwCl [(h0, .inr (5, [.ref h1, .int 2])), (h1, .inl (cI, 100, .inl (upd (upd (fun _ => (0 : Int32)) 0 z_2) 1 z_4)))] H := hP
        have hD : va_D A [(h0, .inr (5, [.ref h1, .int 2])), (h1, .inl (cI, 100, .inl (upd (upd (fun _ => (0 : Int32)) 0 z_2) 1 z_4)))] := hD
        refine lv_iinc (v := 1) (lv' := [(2, .int 1), (0, .ref h0), (1, .int v9)]) hx hb dX5_add_48 hl (k := 0) rfl (by decide +kernel) (by decide) rfl (fun ls hl => ?_)
        refine lv_goto (tgt := 15) hx hb dX5_add_51 (by decide) ?_
        refine lv_iload_n hx hb dX5_add_15 rfl (lv_at hl 0 rfl) ?_
        refine lv_if_lt (tgt := 54) hx hb dX5_add_16 (by decide) (fun c16 => ?_) (fun c16 => ?_)
        ·
          exact absurd c16 (by decide +kernel)
        ·
          refine lv_aload_n hx hb dX5_add_19 rfl (lv_at hl 1 rfl) ?_
          refine va_get (ci := 5) (v := .ref h1) (C := RX5) (T := TX5) (N := 2) hx hb hts hi5 hown hK hP 0 rfl rfl 0 (by decide) fl9 (fun _ h9 => h9) rfl dX5_add_20 ?_
          refine lv_aload_n hx hb dX5_add_23 rfl (lv_at hl 1 rfl) ?_
          refine va_get (ci := 5) (v := .int 2) (C := RX5) (T := TX5) (N := 2) hx hb hts hi5 hown hK hP 0 rfl rfl 1 (by decide) fl13 (fun _ h9 => h9) rfl dX5_add_24 ?_
          refine lv_iload_n hx hb dX5_add_27 rfl (lv_at hl 2 rfl) ?_
          refine lv_bipush (v := 8) hx hb dX5_add_28 (by decide +kernel) ?_
          refine lv_iload_n hx hb dX5_add_30 rfl (lv_at hl 0 rfl) ?_
          refine lv_imul hx hb dX5_add_31 ?_
          refine my_eqi (y := 8) (by decide +kernel) ?_
          obtain ⟨z_5, ez_5⟩ : ∃ z : Int32, (v9.toUInt32 >>> ((8 : Int32).toUInt32 &&& Int32.toUInt32 31)).toInt32 = z := ⟨_, rfl⟩
          refine lv_iushr hx hb dX5_add_32 ez_5 ?_
          refine lv_sipush (v := 255) hx hb dX5_add_33 (by decide +kernel) ?_
          refine lv_iand hx hb dX5_add_36 ?_
          refine lv_topi (fun z_6 ez_6 => ?_)
          refine va_iast hx hb hK hP hD hS 1 0 rfl rfl (vp_in_nI (n := 2) (by omega) (by omega)) dX5_add_37 (fun H locs hP hD hS => ?_)
          have eU : upd (upd (upd (fun _ => (0 : Int32)) 0 z_2) 1 z_4) (2 : Int32).toNatClampNeg z_6 = upd (upd (upd (fun _ => (0 : Int32)) 0 z_2) 1 z_4) 2 z_6 := by rw [show (2 : Int32).toNatClampNeg = 2 from by decide +kernel]
          rw [eU] at hP hD
          have hP : va_P D vwCl [(h0, .inr (5, [.ref h1, .int 2])), (h1, .inl (cI, 100, .inl (upd (upd (upd (fun _ => (0 : Int32)) 0 z_2) 1 z_4) 2 z_6)))] H := hP
          have hD : va_D A [(h0, .inr (5, [.ref h1, .int 2])), (h1, .inl (cI, 100, .inl (upd (upd (upd (fun _ => (0 : Int32)) 0 z_2) 1 z_4) 2 z_6)))] := hD
          refine lv_aload_n hx hb dX5_add_38 rfl (lv_at hl 1 rfl) ?_
          refine lv_dup hx hb dX5_add_39 rfl ?_
          refine va_get (ci := 5) (v := .int 2) (C := RX5) (T := TX5) (N := 2) hx hb hts hi5 hown hK hP 0 rfl rfl 1 (by decide) fl13 (fun _ h9 => h9) rfl dX5_add_40 ?_
          refine lv_iconst (v := 1) hx hb dX5_add_43 (by decide +kernel) ?_
          refine lv_iadd hx hb dX5_add_44 ?_
          refine my_eqi (y := 3) (by decide +kernel) ?_
          refine va_put (ci := 5) (v := .int 3) (ty := (.int)) (C := RX5) (T := TX5) (N := 2) hx hb hts hi5 tyX5 tyX5_ok nmX5 hown hK hP hD hS 0 rfl rfl 1 (by decide) fl13 (fun _ h9 => h9) rfl (by decide +kernel) rfl rfl (Nat.le_of_ble_eq_true rfl) dX5_add_45 (fun H locs hP hD hS => ?_)
          have hP : va_P D vwCl [(h0, .inr (5, [.ref h1, .int 3])), (h1, .inl (cI, 100, .inl (upd (upd (upd (fun _ => (0 : Int32)) 0 z_2) 1 z_4) 2 z_6)))] H := hP
          have hD : va_D A [(h0, .inr (5, [.ref h1, .int 3])), (h1, .inl (cI, 100, .inl (upd (upd (upd (fun _ => (0 : Int32)) 0 z_2) 1 z_4) 2 z_6)))] := hD
          refine lv_iinc (v := 0) (lv' := [(2, .int 0), (0, .ref h0), (1, .int v9)]) hx hb dX5_add_48 hl (k := 0) rfl (by decide +kernel) (by decide) rfl (fun ls hl => ?_)
          refine lv_goto (tgt := 15) hx hb dX5_add_51 (by decide) ?_
          refine lv_iload_n hx hb dX5_add_15 rfl (lv_at hl 0 rfl) ?_
          refine lv_if_lt (tgt := 54) hx hb dX5_add_16 (by decide) (fun c16 => ?_) (fun c16 => ?_)
          ·
            exact absurd c16 (by decide +kernel)
          ·
            refine lv_aload_n hx hb dX5_add_19 rfl (lv_at hl 1 rfl) ?_
            refine va_get (ci := 5) (v := .ref h1) (C := RX5) (T := TX5) (N := 2) hx hb hts hi5 hown hK hP 0 rfl rfl 0 (by decide) fl9 (fun _ h9 => h9) rfl dX5_add_20 ?_
            refine lv_aload_n hx hb dX5_add_23 rfl (lv_at hl 1 rfl) ?_
            refine va_get (ci := 5) (v := .int 3) (C := RX5) (T := TX5) (N := 2) hx hb hts hi5 hown hK hP 0 rfl rfl 1 (by decide) fl13 (fun _ h9 => h9) rfl dX5_add_24 ?_
            refine lv_iload_n hx hb dX5_add_27 rfl (lv_at hl 2 rfl) ?_
            refine lv_bipush (v := 8) hx hb dX5_add_28 (by decide +kernel) ?_
            refine lv_iload_n hx hb dX5_add_30 rfl (lv_at hl 0 rfl) ?_
            refine lv_imul hx hb dX5_add_31 ?_
            refine my_eqi (y := 0) (by decide +kernel) ?_
            obtain ⟨z_7, ez_7⟩ : ∃ z : Int32, (v9.toUInt32 >>> ((0 : Int32).toUInt32 &&& Int32.toUInt32 31)).toInt32 = z := ⟨_, rfl⟩
            refine lv_iushr hx hb dX5_add_32 ez_7 ?_
            refine lv_sipush (v := 255) hx hb dX5_add_33 (by decide +kernel) ?_
            refine lv_iand hx hb dX5_add_36 ?_
            refine lv_topi (fun z_8 ez_8 => ?_)
            refine va_iast hx hb hK hP hD hS 1 0 rfl rfl (vp_in_nI (n := 3) (by omega) (by omega)) dX5_add_37 (fun H locs hP hD hS => ?_)
            have eU : upd (upd (upd (upd (fun _ => (0 : Int32)) 0 z_2) 1 z_4) 2 z_6) (3 : Int32).toNatClampNeg z_8 = upd (upd (upd (upd (fun _ => (0 : Int32)) 0 z_2) 1 z_4) 2 z_6) 3 z_8 := by rw [show (3 : Int32).toNatClampNeg = 3 from by decide +kernel]
            rw [eU] at hP hD
            have hP : va_P D vwCl [(h0, .inr (5, [.ref h1, .int 3])), (h1, .inl (cI, 100, .inl (upd (upd (upd (upd (fun _ => (0 : Int32)) 0 z_2) 1 z_4) 2 z_6) 3 z_8)))] H := hP
            have hD : va_D A [(h0, .inr (5, [.ref h1, .int 3])), (h1, .inl (cI, 100, .inl (upd (upd (upd (upd (fun _ => (0 : Int32)) 0 z_2) 1 z_4) 2 z_6) 3 z_8)))] := hD
            refine lv_aload_n hx hb dX5_add_38 rfl (lv_at hl 1 rfl) ?_
            refine lv_dup hx hb dX5_add_39 rfl ?_
            refine va_get (ci := 5) (v := .int 3) (C := RX5) (T := TX5) (N := 2) hx hb hts hi5 hown hK hP 0 rfl rfl 1 (by decide) fl13 (fun _ h9 => h9) rfl dX5_add_40 ?_
            refine lv_iconst (v := 1) hx hb dX5_add_43 (by decide +kernel) ?_
            refine lv_iadd hx hb dX5_add_44 ?_
            refine my_eqi (y := 4) (by decide +kernel) ?_
            refine va_put (ci := 5) (v := .int 4) (ty := (.int)) (C := RX5) (T := TX5) (N := 2) hx hb hts hi5 tyX5 tyX5_ok nmX5 hown hK hP hD hS 0 rfl rfl 1 (by decide) fl13 (fun _ h9 => h9) rfl (by decide +kernel) rfl rfl (Nat.le_of_ble_eq_true rfl) dX5_add_45 (fun H locs hP hD hS => ?_)
            have hP : va_P D vwCl [(h0, .inr (5, [.ref h1, .int 4])), (h1, .inl (cI, 100, .inl (upd (upd (upd (upd (fun _ => (0 : Int32)) 0 z_2) 1 z_4) 2 z_6) 3 z_8)))] H := hP
            have hD : va_D A [(h0, .inr (5, [.ref h1, .int 4])), (h1, .inl (cI, 100, .inl (upd (upd (upd (upd (fun _ => (0 : Int32)) 0 z_2) 1 z_4) 2 z_6) 3 z_8)))] := hD
            refine lv_iinc (v := (-1)) (lv' := [(2, .int (-1)), (0, .ref h0), (1, .int v9)]) hx hb dX5_add_48 hl (k := 0) rfl (by decide +kernel) (by decide) rfl (fun ls hl => ?_)
            refine lv_goto (tgt := 15) hx hb dX5_add_51 (by decide) ?_
            refine lv_iload_n hx hb dX5_add_15 rfl (lv_at hl 0 rfl) ?_
            refine lv_if_lt (tgt := 54) hx hb dX5_add_16 (by decide) (fun c16 => ?_) (fun c16 => ?_)
            ·
              refine lv_iconst (v := 1) hx hb dX5_add_54 (by decide +kernel) ?_
              exact my_retZ hx hb hr hlocks (by decide +kernel) hK hS [(h0, .inr (5, [.ref h1, .int 4]))] (hP.sub [0] rfl) (hD.sub [0] (by decide) rfl) (⟨rfl, rfl⟩) dX5_add_55
            ·
              exact absurd c16 (by decide +kernel)
  ·
    exact absurd c8 (by decide +kernel)
set_option maxHeartbeats 4000000 in
set_option maxRecDepth 100000 in
theorem k0_X3_read (l : Launch) (D : va_G) (cI cJ : ClassId) (p0 : Nat) (p1 : Nat) (h0 : Nat) (h1 : Nat) (z : Int32) (y : Int32) : ctI l yX3_read wsX3_read ({ frames := 0, cells := 0, slots := 0, locals := 0 } : Room) D (tyIJ cI cJ) [.ref p0, .ref h0] [(p0, .inr (3, [.ref p1, .int z, .int y])), (h0, .inr (5, [.ref h1, .int 0]))] (fun (r : Int32) (u : va_W) => u = [(p0, .inr (3, [.ref p1, .int 0, .int 0])), (h0, .inr (5, [.ref h1, .int 0]))] ∧ r = (-1)) := by
  refine ctI.of (cc := cX3_read) (maxL := 4) (ret := (some .int)) (by decide) rfl (Nat.le_of_ble_eq_true rfl) ?_
  intro p e s m below meth c ls A hx hb hr hts hown hml hlocks hname hA hK hN hP hD hS hl
  have hl : lv_has ls 4 [(0, .ref p0), (1, .ref h0)] := hl
  have hown : s.vm.findClass RX3 = some m.cls := hown
  have hi3 : ∀ w ∈ u_ws RX3 TX3 3, w ∈ wsX3_read := by decide +kernel
  have hi5 : ∀ w ∈ u_ws RX5 TX5 2, w ∈ wsX3_read := by decide +kernel
  have fl15 := hts (.fieldLink RX3 15 "PlaneColumn$PartReader" "size" "I") (by decide +kernel)
  have fl19 := hts (.fieldLink RX3 19 "PlaneColumn$PartReader" "at" "I") (by decide +kernel)
  refine lv_aload_n hx hb dX3_read_0 rfl (lv_at hl 0 rfl) ?_
  refine lv_iconst (v := 0) hx hb dX3_read_1 (by decide +kernel) ?_
  refine va_put (ci := 3) (v := .int 0) (ty := (.int)) (C := RX3) (T := TX3) (N := 3) hx hb hts hi3 tyX3 tyX3_ok nmX3 hown hK hP hD hS 0 rfl rfl 1 (by decide) fl15 (fun _ h9 => h9) rfl (by decide +kernel) rfl rfl (Nat.le_of_ble_eq_true rfl) dX3_read_2 (fun H locs hP hD hS => ?_)
  have hP : va_P D vwCl [(p0, .inr (3, [.ref p1, .int 0, .int y])), (h0, .inr (5, [.ref h1, .int 0]))] H := hP
  have hD : va_D A [(p0, .inr (3, [.ref p1, .int 0, .int y])), (h0, .inr (5, [.ref h1, .int 0]))] := hD
  refine lv_aload_n hx hb dX3_read_5 rfl (lv_at hl 0 rfl) ?_
  refine lv_iconst (v := 0) hx hb dX3_read_6 (by decide +kernel) ?_
  refine va_put (ci := 3) (v := .int 0) (ty := (.int)) (C := RX3) (T := TX3) (N := 3) hx hb hts hi3 tyX3 tyX3_ok nmX3 hown hK hP hD hS 0 rfl rfl 2 (by decide) fl19 (fun _ h9 => h9) rfl (by decide +kernel) rfl rfl (Nat.le_of_ble_eq_true rfl) dX3_read_7 (fun H locs hP hD hS => ?_)
  have hP : va_P D vwCl [(p0, .inr (3, [.ref p1, .int 0, .int 0])), (h0, .inr (5, [.ref h1, .int 0]))] H := hP
  have hD : va_D A [(p0, .inr (3, [.ref p1, .int 0, .int 0])), (h0, .inr (5, [.ref h1, .int 0]))] := hD
  refine lv_aload_n hx hb dX3_read_10 rfl (lv_at hl 1 rfl) ?_
  refine va_getN (ci := 5) (v := .int 0) (C := RX5) (T := TX5) (N := 2) hx hb hts hi5 hown hK hP 1 rfl rfl 1 (by decide) (nw_f_RX3_22 hN) (fun _ h9 => h9) rfl dX3_read_11 ?_
  refine lv_if_ne (tgt := 19) hx hb dX3_read_14 (by decide) (fun c14 => ?_) (fun c14 => ?_)
  ·
    exact absurd c14 (by decide +kernel)
  ·
    refine lv_iconst (v := (-1)) hx hb dX3_read_17 (by decide +kernel) ?_
    exact my_retI hx hb hr hlocks hK hS [(p0, .inr (3, [.ref p1, .int 0, .int 0])), (h0, .inr (5, [.ref h1, .int 0]))] (hP.sub [0, 1] rfl) (hD.sub [0, 1] (by decide) rfl) (⟨rfl, rfl⟩) dX3_read_18
set_option maxHeartbeats 4000000 in
set_option maxRecDepth 100000 in
theorem k0_X4_isBit (l : Launch) (D : va_G) (cI cJ : ClassId)  : cpI l yX4_isBit wsX4_isBit ({ frames := 0, cells := 0, slots := 0, locals := 0 } : Room) D (tyIJ cI cJ) [.int (-1)] [] (fun (r : Int32) => r = 0) := by
  refine cpI.of (cc := cX4_isBit) (maxL := 1) (ret := (some .boolean)) (by decide) rfl (Nat.le_of_ble_eq_true rfl) ?_
  intro p e s m below meth c ls hx hb hr hts hown hml hlocks hname hK hN hP hl
  have hl : lv_has ls 1 [(0, .int (-1))] := hl
  have hown : s.vm.findClass RX4 = some m.cls := hown
  refine lv_iload_n hx hb dX4_isBit_0 rfl (lv_at hl 0 rfl) ?_
  refine lv_bipush (v := 48) hx hb dX4_isBit_1 (by decide +kernel) ?_
  refine lv_icmp_eq (tgt := 12) hx hb dX4_isBit_3 (by decide) (fun c3 => ?_) (fun c3 => ?_)
  ·
    exact absurd c3 (by decide +kernel)
  ·
    refine lv_iload_n hx hb dX4_isBit_6 rfl (lv_at hl 0 rfl) ?_
    refine lv_bipush (v := 49) hx hb dX4_isBit_7 (by decide +kernel) ?_
    refine lv_icmp_ne (tgt := 16) hx hb dX4_isBit_9 (by decide) (fun c9 => ?_) (fun c9 => ?_)
    ·
      refine lv_iconst (v := 0) hx hb dX4_isBit_16 (by decide +kernel) ?_
      exact my_rpZ hx hb hr hlocks (by decide +kernel) (rfl) dX4_isBit_17
    ·
      exact absurd c9 (by decide +kernel)
set_option maxHeartbeats 4000000 in
set_option maxRecDepth 100000 in
theorem k0_X4_readBits (l : Launch) (D : va_G) (cI cJ : ClassId) (p0 : Nat) (p1 : Nat) (h0 : Nat) (h1 : Nat) (z : Int32) : ctI l yX4_readBits wsX4_readBits ({ frames := 1, cells := 0, slots := 0, locals := 60 } : Room) D (tyIJ cI cJ) [.ref p0, .ref h0, .int 0, .int 0, .int 11] [(p0, .inr (4, [.ref p1, .int z])), (p1, .inl (cJ, 8, .inr (.inl (fun _ => (0 : Int64))))), (h0, .inr (5, [.ref h1, .int 0]))] (fun (r : Int32) (u : va_W) => u = [(p0, .inr (4, [.ref p1, .int z])), (h0, .inr (5, [.ref h1, .int 0]))] ∧ r = 0) := by
  refine ctI.of (cc := cX4_readBits) (maxL := 6) (ret := (some .int)) (by decide) rfl (Nat.le_of_ble_eq_true rfl) ?_
  intro p e s m below meth c ls A hx hb hr hts hown hml hlocks hname hA hK hN hP hD hS hl
  have hl : lv_has ls 6 [(0, .ref p0), (1, .ref h0), (2, .int 0), (3, .int 0), (4, .int 11)] := hl
  have hown : s.vm.findClass RX4 = some m.cls := hown
  have hi4 : ∀ w ∈ u_ws RX4 TX4 2, w ∈ wsX4_readBits := by decide +kernel
  have fl9 := hts (.fieldLink RX4 9 "PlaneColumn$PlaneReader" "bits" "[J") (by decide +kernel)
  refine lv_aload_n hx hb dX4_readBits_0 rfl (lv_at hl 0 rfl) ?_
  refine va_get (ci := 4) (v := .ref p1) (C := RX4) (T := TX4) (N := 2) hx hb hts hi4 hown hK hP 0 rfl rfl 0 (by decide) fl9 (fun _ h9 => h9) rfl dX4_readBits_1 ?_
  refine lv_iload_n hx hb dX4_readBits_4 rfl (lv_at hl 3 rfl) ?_
  refine lv_lconst (v := 0) hx hb dX4_readBits_5 (by decide +kernel) ?_
  refine va_last hx hb hK hP hD hS 1 1 rfl rfl (vp_in_nI (n := 0) (by omega) (by omega)) dX4_readBits_6 (fun H locs hP hD hS => ?_)
  have eU : vp_updL (fun _ => (0 : Int64)) (0 : Int32).toNatClampNeg 0 = (fun _ => (0 : Int64)) := my_upd0L _
  rw [eU] at hP hD
  have hP : va_P D vwCl [(p0, .inr (4, [.ref p1, .int z])), (p1, .inl (cJ, 8, .inr (.inl (fun _ => (0 : Int64))))), (h0, .inr (5, [.ref h1, .int 0]))] H := hP
  have hD : va_D A [(p0, .inr (4, [.ref p1, .int z])), (p1, .inl (cJ, 8, .inr (.inl (fun _ => (0 : Int64))))), (h0, .inr (5, [.ref h1, .int 0]))] := hD
  refine lv_iconst (v := 0) hx hb dX4_readBits_7 (by decide +kernel) ?_
  refine lv_istore (lv' := [(5, .int 0), (0, .ref p0), (1, .ref h0), (2, .int 0), (3, .int 0), (4, .int 11)]) hx hb dX4_readBits_8 hl (by decide) rfl (fun ls hl => ?_)
  refine lv_iload hx hb dX4_readBits_10 (lv_at hl 0 rfl) ?_
  refine lv_iload hx hb dX4_readBits_12 (lv_at hl 5 rfl) ?_
  refine lv_icmp_ge (tgt := 61) hx hb dX4_readBits_14 (by decide) (fun c14 => ?_) (fun c14 => ?_)
  ·
    exact absurd c14 (by decide +kernel)
  ·
    refine lv_aload_n hx hb dX4_readBits_17 rfl (lv_at hl 2 rfl) ?_
    refine lv_iload_n hx hb dX4_readBits_18 rfl (lv_at hl 3 rfl) ?_
    refine lv_iload hx hb dX4_readBits_19 (lv_at hl 0 rfl) ?_
    refine lv_iadd hx hb dX4_readBits_21 ?_
    refine my_eqi (y := 0) (by decide +kernel) ?_
    refine my_gpI (my_pV (As := [.int 0]) (rest := []) (ci := 5) ⟨hx, hb, hml, hown, hts⟩ (cwV 1 hts gX4_readBits_X5_at rfl rfl rfl (by decide +kernel) ⟨Nat.le_of_ble_eq_true rfl, Nat.le_of_ble_eq_true rfl⟩) hN hK hP [2] rfl 2 rfl rfl rfl rfl hl.1 rfl (Nat.le_of_ble_eq_true rfl) dX4_readBits_22 ⟨Nat.le_of_ble_eq_true rfl, Nat.le_of_ble_eq_true rfl⟩  (k0_X5_at l D cI cJ h0 h1 (0 : Int32))) (fun r hp => ?_)
    obtain rfl := hp
    refine my_gpI (my_pS (As := [.int (-1)]) (rest := []) ⟨hx, hb, hml, hown, hts⟩ (va_cwS 1 hts gX4_readBits_X4_isBit rfl rfl rfl (by decide +kernel) ⟨Nat.le_of_ble_eq_true rfl, Nat.le_of_ble_eq_true rfl⟩) hN hK hP [] rfl rfl hl.1 rfl (Nat.le_of_ble_eq_true rfl) dX4_readBits_25 ⟨Nat.le_of_ble_eq_true rfl, Nat.le_of_ble_eq_true rfl⟩  (k0_X4_isBit l D cI cJ )) (fun r hp => ?_)
    obtain rfl := hp
    refine lv_if_eq (tgt := 61) hx hb dX4_readBits_28 (by decide) (fun c28 => ?_) (fun c28 => ?_)
    ·
      refine lv_iload hx hb dX4_readBits_61 (lv_at hl 0 rfl) ?_
      exact my_retI hx hb hr hlocks hK hS [(p0, .inr (4, [.ref p1, .int z])), (h0, .inr (5, [.ref h1, .int 0]))] (hP.sub [0, 2] rfl) (hD.sub [0, 2] (by decide) rfl) (⟨rfl, rfl⟩) dX4_readBits_63
    ·
      exact absurd c28 (by decide +kernel)
set_option maxHeartbeats 4000000 in
set_option maxRecDepth 100000 in
theorem k0_X4_read (l : Launch) (D : va_G) (cI cJ : ClassId) (p0 : Nat) (p1 : Nat) (h0 : Nat) (h1 : Nat) (z : Int32) : ctI l yX4_read wsX4_read ({ frames := 2, cells := 0, slots := 0, locals := 120 } : Room) D (tyIJ cI cJ) [.ref p0, .ref h0] [(p0, .inr (4, [.ref p1, .int z])), (p1, .inl (cJ, 8, .inr (.inl (fun _ => (0 : Int64))))), (h0, .inr (5, [.ref h1, .int 0]))] (fun (r : Int32) (u : va_W) => u = [(h0, .inr (5, [.ref h1, .int 0]))] ∧ r = 0) := by
  refine ctI.of (cc := cX4_read) (maxL := 6) (ret := (some .int)) (by decide) rfl (Nat.le_of_ble_eq_true rfl) ?_
  intro p e s m below meth c ls A hx hb hr hts hown hml hlocks hname hA hK hN hP hD hS hl
  have hl : lv_has ls 6 [(0, .ref p0), (1, .ref h0)] := hl
  have hown : s.vm.findClass RX4 = some m.cls := hown
  have hi4 : ∀ w ∈ u_ws RX4 TX4 2, w ∈ wsX4_read := by decide +kernel
  have fl15 := hts (.fieldLink RX4 15 "PlaneColumn$PlaneReader" "width" "I") (by decide +kernel)
  refine lv_iconst (v := 0) hx hb dX4_read_0 (by decide +kernel) ?_
  refine lv_istore_n (lv' := [(2, .int 0), (0, .ref p0), (1, .ref h0)]) hx hb dX4_read_1 rfl hl (by decide) rfl (fun ls hl => ?_)
  refine lv_iconst (v := 0) hx hb dX4_read_2 (by decide +kernel) ?_
  refine lv_istore_n (lv' := [(3, .int 0), (2, .int 0), (0, .ref p0), (1, .ref h0)]) hx hb dX4_read_3 rfl hl (by decide) rfl (fun ls hl => ?_)
  refine lv_iload_n hx hb dX4_read_4 rfl (lv_at hl 0 rfl) ?_
  refine lv_bipush (v := 8) hx hb dX4_read_5 (by decide +kernel) ?_
  refine lv_icmp_ge (tgt := 91) hx hb dX4_read_7 (by decide) (fun c7 => ?_) (fun c7 => ?_)
  ·
    exact absurd c7 (by decide +kernel)
  ·
    refine lv_aload_n hx hb dX4_read_10 rfl (lv_at hl 2 rfl) ?_
    refine lv_aload_n hx hb dX4_read_11 rfl (lv_at hl 3 rfl) ?_
    refine lv_iload_n hx hb dX4_read_12 rfl (lv_at hl 1 rfl) ?_
    refine lv_iload_n hx hb dX4_read_13 rfl (lv_at hl 0 rfl) ?_
    refine lv_iload_n hx hb dX4_read_14 rfl (lv_at hl 0 rfl) ?_
    refine lv_if_ne (tgt := 23) hx hb dX4_read_15 (by decide) (fun c15 => ?_) (fun c15 => ?_)
    ·
      exact absurd c15 (by decide +kernel)
    ·
      refine lv_bipush (v := 11) hx hb dX4_read_18 (by decide +kernel) ?_
      refine lv_goto (tgt := 27) hx hb dX4_read_20 (by decide) ?_
      refine my_goI (wr := []) hP hD hS hA [0, 1, 2] [] rfl rfl (by decide) (by decide) (my_cV (As := [.ref h0, .int 0, .int 0, .int 11]) (rest := []) (ci := 4) (wc := [(p0, .inr (4, [.ref p1, .int z])), (p1, .inl (cJ, 8, .inr (.inl (fun _ => (0 : Int64))))), (h0, .inr (5, [.ref h1, .int 0]))]) ⟨hx, hb, hml, hown, hts⟩ (cwV 4 hts gX4_read_X4_readBits rfl rfl rfl (by decide +kernel) ⟨Nat.le_of_ble_eq_true rfl, Nat.le_of_ble_eq_true rfl⟩) hN hK hP hD [0, 1, 2] rfl (by decide) rfl 0 rfl rfl rfl rfl hl.1 rfl (Nat.le_of_ble_eq_true rfl) dX4_read_27 ⟨Nat.le_of_ble_eq_true rfl, Nat.le_of_ble_eq_true rfl⟩  ((k0_X4_readBits l D cI cJ p0 p1 h0 h1 z) _)) (fun r u H locs hp hP hD hS => ?_)
      obtain ⟨rfl, rfl⟩ := hp
      have hP : va_P D vwCl [(p0, .inr (4, [.ref p1, .int z])), (h0, .inr (5, [.ref h1, .int 0]))] H := hP
      have hD : va_D A [(p0, .inr (4, [.ref p1, .int z])), (h0, .inr (5, [.ref h1, .int 0]))] := hD
      refine lv_istore (lv' := [(4, .int 0), (3, .int 0), (2, .int 0), (0, .ref p0), (1, .ref h0)]) hx hb dX4_read_30 hl (by decide) rfl (fun ls hl => ?_)
      refine lv_iload_n hx hb dX4_read_32 rfl (lv_at hl 2 rfl) ?_
      refine lv_iload hx hb dX4_read_33 (lv_at hl 0 rfl) ?_
      refine lv_iadd hx hb dX4_read_35 ?_
      refine my_eqi (y := 0) (by decide +kernel) ?_
      refine lv_istore_n (lv' := [(2, .int 0), (4, .int 0), (3, .int 0), (0, .ref p0), (1, .ref h0)]) hx hb dX4_read_36 rfl hl (by decide) rfl (fun ls hl => ?_)
      refine lv_iload_n hx hb dX4_read_37 rfl (lv_at hl 2 rfl) ?_
      refine lv_if_ne (tgt := 47) hx hb dX4_read_38 (by decide) (fun c38 => ?_) (fun c38 => ?_)
      ·
        exact absurd c38 (by decide +kernel)
      ·
        refine lv_aload_n hx hb dX4_read_41 rfl (lv_at hl 3 rfl) ?_
        refine lv_iload hx hb dX4_read_42 (lv_at hl 1 rfl) ?_
        refine va_put (ci := 4) (v := .int 0) (ty := (.int)) (C := RX4) (T := TX4) (N := 2) hx hb hts hi4 tyX4 tyX4_ok nmX4 hown hK hP hD hS 0 rfl rfl 1 (by decide) fl15 (fun _ h9 => h9) rfl (by decide +kernel) rfl rfl (Nat.le_of_ble_eq_true rfl) dX4_read_44 (fun H locs hP hD hS => ?_)
        have hP : va_P D vwCl [(p0, .inr (4, [.ref p1, .int 0])), (h0, .inr (5, [.ref h1, .int 0]))] H := hP
        have hD : va_D A [(p0, .inr (4, [.ref p1, .int 0])), (h0, .inr (5, [.ref h1, .int 0]))] := hD
        refine lv_iload_n hx hb dX4_read_47 rfl (lv_at hl 2 rfl) ?_
        refine lv_bipush (v := 7) hx hb dX4_read_48 (by decide +kernel) ?_
        refine lv_icmp_ne (tgt := 57) hx hb dX4_read_50 (by decide) (fun c50 => ?_) (fun c50 => ?_)
        ·
          refine lv_bipush (v := 47) hx hb dX4_read_57 (by decide +kernel) ?_
          refine lv_istore (lv' := [(5, .int 47), (2, .int 0), (4, .int 0), (3, .int 0), (0, .ref p0), (1, .ref h0)]) hx hb dX4_read_59 hl (by decide) rfl (fun ls hl => ?_)
          refine lv_iload hx hb dX4_read_61 (lv_at hl 2 rfl) ?_
          refine lv_aload_n hx hb dX4_read_63 rfl (lv_at hl 4 rfl) ?_
          refine va_get (ci := 4) (v := .int 0) (C := RX4) (T := TX4) (N := 2) hx hb hts hi4 hown hK hP 0 rfl rfl 1 (by decide) fl15 (fun _ h9 => h9) rfl dX4_read_64 ?_
          refine lv_icmp_lt (tgt := 80) hx hb dX4_read_67 (by decide) (fun c67 => ?_) (fun c67 => ?_)
          ·
            exact absurd c67 (by decide +kernel)
          ·
            refine lv_aload_n hx hb dX4_read_70 rfl (lv_at hl 5 rfl) ?_
            refine lv_iload_n hx hb dX4_read_71 rfl (lv_at hl 1 rfl) ?_
            refine my_gpI (my_pV (As := [.int 0]) (rest := []) (ci := 5) ⟨hx, hb, hml, hown, hts⟩ (cwV 1 hts gX4_read_X5_at rfl rfl rfl (by decide +kernel) ⟨Nat.le_of_ble_eq_true rfl, Nat.le_of_ble_eq_true rfl⟩) hN hK hP [1] rfl 1 rfl rfl rfl rfl hl.1 rfl (Nat.le_of_ble_eq_true rfl) dX4_read_72 ⟨Nat.le_of_ble_eq_true rfl, Nat.le_of_ble_eq_true rfl⟩  (k0_X5_at l D cI cJ h0 h1 (0 : Int32))) (fun r hp => ?_)
            obtain rfl := hp
            refine lv_iload hx hb dX4_read_75 (lv_at hl 0 rfl) ?_
            refine lv_icmp_eq (tgt := 82) hx hb dX4_read_77 (by decide) (fun c77 => ?_) (fun c77 => ?_)
            ·
              exact absurd c77 (by decide +kernel)
            ·
              refine lv_iload_n hx hb dX4_read_80 rfl (lv_at hl 1 rfl) ?_
              exact my_retI hx hb hr hlocks hK hS [(h0, .inr (5, [.ref h1, .int 0]))] (hP.sub [1] rfl) (hD.sub [1] (by decide) rfl) (⟨rfl, rfl⟩) dX4_read_81
        ·
          exact absurd c50 (by decide +kernel)
