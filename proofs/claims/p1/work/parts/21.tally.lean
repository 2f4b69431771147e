set_option maxHeartbeats 4000000 in
set_option maxRecDepth 100000 in
theorem k0_J7_fill_53178 (l : Launch) (D : va_G) (cI cJ : ClassId) (h1 : Nat) : ctV l yJ7_fill_53178 wsJ7_fill_53178 ({ frames := 0, cells := 0, slots := 0, locals := 0 } : Room) D (tyIJ cI cJ) [.ref h1, .int 0] [(h1, .inl (cI, 512, .inl (fun _ => (0 : Int32))))] (fun (u : va_W) => u = [(h1, .inl (cI, 512, .inl (fun _ => (0 : Int32))))]) := by
  refine ctV.of (cc := cJ7_fill_53178) (maxL := 4) (ret := none) (by decide) rfl (Nat.le_of_ble_eq_true rfl) ?_
  intro p e s m below meth c ls A hx hb hr hts hown hml hlocks hname hA hK hN hP hD hS hl
  have hl : lv_has ls 4 [(0, .ref h1), (1, .int 0)] := hl
  have hown : s.vm.findClass RJ7 = some m.cls := hown
  refine lv_iconst (v := 0) hx hb dJ7_fill_53178_0 (by decide +kernel) ?_
  refine lv_istore_n (lv' := [(2, .int 0), (0, .ref h1), (1, .int 0)]) hx hb dJ7_fill_53178_1 rfl hl (by decide) rfl (fun ls hl => ?_)
  refine lv_aload_n hx hb dJ7_fill_53178_2 rfl (lv_at hl 1 rfl) ?_
  refine va_alen (v := 512) hx hb hK hP 0 0 rfl rfl rfl dJ7_fill_53178_3 ?_
  refine lv_istore_n (lv' := [(3, .int 512), (2, .int 0), (0, .ref h1), (1, .int 0)]) hx hb dJ7_fill_53178_4 rfl hl (by decide) rfl (fun ls hl => ?_)
  have loop5 : ∀ (n9 : Nat) (k : Nat), 512 - k < n9 → (k ≤ 512) → ∀ (H : Heap) (locs : List Loc) (ls : Array Slot), va_P D vwCl [(h1, .inl (cI, 512, .inl (fun _ => (0 : Int32))))] H → va_D A [(h1, .inl (cI, 512, .inl (fun _ => (0 : Int32))))] → va_S A s.heap H locs → lv_has ls 4 [(2, .int (nI k)), (3, .int 512), (1, .int 0), (0, .ref h1)] → W p l e ({ frames := 0, cells := 0, slots := 0, locals := 0 } : Room) s m [.ref h1, .int 0].toArray below meth c H locs 0 0 (MQ below (va_Qv (fun (u : va_W) => u = [(h1, .inl (cI, 512, .inl (fun _ => (0 : Int32))))]) (my_B D (tyIJ cI cJ) A) A) [.ref h1, .int 0].toArray s 0 0 A) (F0 m 5 ls []) := by
    intro n9
    induction n9 with
    | zero =>
      intro k hn9
      exact absurd hn9 (Nat.not_lt_zero _)
    | succ n9 ih5 =>
      intro k hn9 hk H locs ls hP hD hS hl
      refine lv_iload_n hx hb dJ7_fill_53178_5 rfl (lv_at hl 0 rfl) ?_
      refine lv_iload_n hx hb dJ7_fill_53178_6 rfl (lv_at hl 1 rfl) ?_
      refine lv_icmp_ge (tgt := 20) hx hb dJ7_fill_53178_7 (by decide) (fun c7 => ?_) (fun c7 => ?_)
      ·
        have d7 : ((k : Nat) : Int) ≥ (512 : Int) := my_ge c7 (nI_toInt (by omega)) (by decide +kernel)
        exact my_retV hx hb hr hlocks hK hS [(h1, .inl (cI, 512, .inl (fun _ => (0 : Int32))))] (hP.sub [0] rfl) (hD.sub [0] (by decide) rfl) (rfl) dJ7_fill_53178_20
      ·
        have d7 : ((k : Nat) : Int) < (512 : Int) := my_nge c7 (nI_toInt (by omega)) (by decide +kernel)
        refine lv_aload_n hx hb dJ7_fill_53178_10 rfl (lv_at hl 3 rfl) ?_
        refine lv_iload_n hx hb dJ7_fill_53178_11 rfl (lv_at hl 0 rfl) ?_
        refine lv_iload_n hx hb dJ7_fill_53178_12 rfl (lv_at hl 2 rfl) ?_
        refine va_iast hx hb hK hP hD hS 0 0 rfl rfl (vp_in_nI (by omega) (by omega)) dJ7_fill_53178_13 (fun H locs hP hD hS => ?_)
        have eU : upd (fun _ => (0 : Int32)) (nI k : Int32).toNatClampNeg 0 = (fun _ => (0 : Int32)) := my_upd0 _
        rw [eU] at hP hD
        have hP : va_P D vwCl [(h1, .inl (cI, 512, .inl (fun _ => (0 : Int32))))] H := hP
        have hD : va_D A [(h1, .inl (cI, 512, .inl (fun _ => (0 : Int32))))] := hD
        refine lv_iinc (v := nI (k + 1)) (lv' := [(2, .int (nI (k + 1))), (3, .int 512), (1, .int 0), (0, .ref h1)]) hx hb dJ7_fill_53178_14 hl (k := 0) rfl (my_incN k 1 (by decide +kernel)) (by decide) rfl (fun ls hl => ?_)
        refine lv_goto (tgt := 5) hx hb dJ7_fill_53178_17 (by decide) ?_
        exact ih5  (k + 1) (by omega) (by omega) _ _ ls (hP.sub [0] rfl) (hD.sub [0] (by decide) rfl) hS (lv_sub hl [0, 1, 2, 3] rfl)
  exact loop5 ((512 - 0) + 1) 0 (Nat.lt_succ_self _) (by first | omega | decide +kernel) _ _ ls (hP.sub [0] rfl) (hD.sub [0] (by decide) rfl) hS (lv_sub hl [1, 0, 3, 2] rfl)
set_option maxHeartbeats 4000000 in
set_option maxRecDepth 100000 in
theorem k0_X6_inNode_0 (l : Launch) (D : va_G) (cI cJ : ClassId) (h0 : Nat) (h1 : Nat) (h2 : Nat) (z : Int32) (v : Int32) : cpI l yX6_inNode wsX6_inNode ({ frames := 0, cells := 0, slots := 0, locals := 0 } : Room) D (tyIJ cI cJ) [.ref h0, .int 0, .int v] [(h0, .inr (6, [.ref h1, .ref h2, .int z])), (h1, .inl (cI, 512, .inl (fun _ => (0 : Int32))))] (fun (r : Int32) => r = 0) := by
  refine cpI.of (cc := cX6_inNode) (maxL := 3) (ret := (some .int)) (by decide) rfl (Nat.le_of_ble_eq_true rfl) ?_
  intro p e s m below meth c ls hx hb hr hts hown hml hlocks hname hK hN hP hl
  have hl : lv_has ls 3 [(0, .ref h0), (1, .int 0), (2, .int v)] := hl
  have hown : s.vm.findClass RX6 = some m.cls := hown
  have hi6 : ∀ w ∈ u_ws RX6 TX6 3, w ∈ wsX6_inNode := by decide +kernel
  have fl9 := hts (.fieldLink RX6 9 "PlaneColumn$Tally" "nodes" "[I") (by decide +kernel)
  refine lv_iload_n hx hb dX6_inNode_0 rfl (lv_at hl 1 rfl) ?_
  refine lv_if_lt (tgt := 21) hx hb dX6_inNode_1 (by decide) (fun c1 => ?_) (fun c1 => ?_)
  ·
    exact absurd c1 (by decide +kernel)
  ·
    refine lv_iload_n hx hb dX6_inNode_4 rfl (lv_at hl 1 rfl) ?_
    refine lv_bipush (v := 8) hx hb dX6_inNode_5 (by decide +kernel) ?_
    refine lv_icmp_gt (tgt := 21) hx hb dX6_inNode_7 (by decide) (fun c7 => ?_) (fun c7 => ?_)
    ·
      exact absurd c7 (by decide +kernel)
    ·
      refine lv_iload_n hx hb dX6_inNode_10 rfl (lv_at hl 2 rfl) ?_
      refine lv_if_lt (tgt := 21) hx hb dX6_inNode_11 (by decide) (fun c11 => ?_) (fun c11 => ?_)
      ·
        have d11 : v.toInt < (0 : Int) := my_lt c11 rfl (by decide +kernel)
        refine lv_iconst (v := 0) hx hb dX6_inNode_21 (by decide +kernel) ?_
        exact my_rpI hx hb hr hlocks (rfl) dX6_inNode_22
      ·
        have d11 : v.toInt ≥ (0 : Int) := my_nlt c11 rfl (by decide +kernel)
        refine lv_iload_n hx hb dX6_inNode_14 rfl (lv_at hl 2 rfl) ?_
        refine lv_iconst (v := 1) hx hb dX6_inNode_15 (by decide +kernel) ?_
        refine lv_iload_n hx hb dX6_inNode_16 rfl (lv_at hl 1 rfl) ?_
        refine lv_ishl hx hb dX6_inNode_17 ?_
        refine my_eqi (y := 1) (by decide +kernel) ?_
        refine lv_icmp_lt (tgt := 23) hx hb dX6_inNode_18 (by decide) (fun c18 => ?_) (fun c18 => ?_)
        ·
          have d18 : v.toInt < (1 : Int) := my_lt c18 rfl (by decide +kernel)
          refine lv_aload_n hx hb dX6_inNode_23 rfl (lv_at hl 0 rfl) ?_
          refine va_get (ci := 6) (v := .ref h1) (C := RX6) (T := TX6) (N := 3) hx hb hts hi6 hown hK hP 0 rfl rfl 0 (by decide) fl9 (fun _ h9 => h9) rfl dX6_inNode_24 ?_
          refine lv_iconst (v := 1) hx hb dX6_inNode_27 (by decide +kernel) ?_
          refine lv_iload_n hx hb dX6_inNode_28 rfl (lv_at hl 1 rfl) ?_
          refine lv_ishl hx hb dX6_inNode_29 ?_
          refine my_eqi (y := 1) (by decide +kernel) ?_
          refine lv_iload_n hx hb dX6_inNode_30 rfl (lv_at hl 2 rfl) ?_
          refine lv_iadd hx hb dX6_inNode_31 ?_
          refine lv_topi (fun z_1 ez_1 => ?_)
          have tz_1 : z_1.toInt = (1 : Int) + v.toInt := by rw [ez_1]; exact my_addI (by decide +kernel) rfl (by omega) (by omega)
          refine va_iald hx hb hK hP 1 0 rfl rfl (vp_in_iff.mpr ⟨by omega, by omega⟩) dX6_inNode_32 ?_
          refine my_eqi (y := 0) rfl ?_
          exact my_rpI hx hb hr hlocks (rfl) dX6_inNode_33
        ·
          have d18 : v.toInt ≥ (1 : Int) := my_nlt c18 rfl (by decide +kernel)
          refine lv_iconst (v := 0) hx hb dX6_inNode_21 (by decide +kernel) ?_
          exact my_rpI hx hb hr hlocks (rfl) dX6_inNode_22
set_option maxHeartbeats 4000000 in
set_option maxRecDepth 100000 in
theorem k0_X6_inNode_1 (l : Launch) (D : va_G) (cI cJ : ClassId) (h0 : Nat) (h1 : Nat) (h2 : Nat) (z : Int32) (v : Int32) : cpI l yX6_inNode wsX6_inNode ({ frames := 0, cells := 0, slots := 0, locals := 0 } : Room) D (tyIJ cI cJ) [.ref h0, .int 1, .int v] [(h0, .inr (6, [.ref h1, .ref h2, .int z])), (h1, .inl (cI, 512, .inl (fun _ => (0 : Int32))))] (fun (r : Int32) => r = 0) := by
  refine cpI.of (cc := cX6_inNode) (maxL := 3) (ret := (some .int)) (by decide) rfl (Nat.le_of_ble_eq_true rfl) ?_
  intro p e s m below meth c ls hx hb hr hts hown hml hlocks hname hK hN hP hl
  have hl : lv_has ls 3 [(0, .ref h0), (1, .int 1), (2, .int v)] := hl
  have hown : s.vm.findClass RX6 = some m.cls := hown
  have hi6 : ∀ w ∈ u_ws RX6 TX6 3, w ∈ wsX6_inNode := by decide +kernel
  have fl9 := hts (.fieldLink RX6 9 "PlaneColumn$Tally" "nodes" "[I") (by decide +kernel)
  refine lv_iload_n hx hb dX6_inNode_0 rfl (lv_at hl 1 rfl) ?_
  refine lv_if_lt (tgt := 21) hx hb dX6_inNode_1 (by decide) (fun c1 => ?_) (fun c1 => ?_)
  ·
    exact absurd c1 (by decide +kernel)
  ·
    refine lv_iload_n hx hb dX6_inNode_4 rfl (lv_at hl 1 rfl) ?_
    refine lv_bipush (v := 8) hx hb dX6_inNode_5 (by decide +kernel) ?_
    refine lv_icmp_gt (tgt := 21) hx hb dX6_inNode_7 (by decide) (fun c7 => ?_) (fun c7 => ?_)
    ·
      exact absurd c7 (by decide +kernel)
    ·
      refine lv_iload_n hx hb dX6_inNode_10 rfl (lv_at hl 2 rfl) ?_
      refine lv_if_lt (tgt := 21) hx hb dX6_inNode_11 (by decide) (fun c11 => ?_) (fun c11 => ?_)
      ·
        have d11 : v.toInt < (0 : Int) := my_lt c11 rfl (by decide +kernel)
        refine lv_iconst (v := 0) hx hb dX6_inNode_21 (by decide +kernel) ?_
        exact my_rpI hx hb hr hlocks (rfl) dX6_inNode_22
      ·
        have d11 : v.toInt ≥ (0 : Int) := my_nlt c11 rfl (by decide +kernel)
        refine lv_iload_n hx hb dX6_inNode_14 rfl (lv_at hl 2 rfl) ?_
        refine lv_iconst (v := 1) hx hb dX6_inNode_15 (by decide +kernel) ?_
        refine lv_iload_n hx hb dX6_inNode_16 rfl (lv_at hl 1 rfl) ?_
        refine lv_ishl hx hb dX6_inNode_17 ?_
        refine my_eqi (y := 2) (by decide +kernel) ?_
        refine lv_icmp_lt (tgt := 23) hx hb dX6_inNode_18 (by decide) (fun c18 => ?_) (fun c18 => ?_)
        ·
          have d18 : v.toInt < (2 : Int) := my_lt c18 rfl (by decide +kernel)
          refine lv_aload_n hx hb dX6_inNode_23 rfl (lv_at hl 0 rfl) ?_
          refine va_get (ci := 6) (v := .ref h1) (C := RX6) (T := TX6) (N := 3) hx hb hts hi6 hown hK hP 0 rfl rfl 0 (by decide) fl9 (fun _ h9 => h9) rfl dX6_inNode_24 ?_
          refine lv_iconst (v := 1) hx hb dX6_inNode_27 (by decide +kernel) ?_
          refine lv_iload_n hx hb dX6_inNode_28 rfl (lv_at hl 1 rfl) ?_
          refine lv_ishl hx hb dX6_inNode_29 ?_
          refine my_eqi (y := 2) (by decide +kernel) ?_
          refine lv_iload_n hx hb dX6_inNode_30 rfl (lv_at hl 2 rfl) ?_
          refine lv_iadd hx hb dX6_inNode_31 ?_
          refine lv_topi (fun z_1 ez_1 => ?_)
          have tz_1 : z_1.toInt = (2 : Int) + v.toInt := by rw [ez_1]; exact my_addI (by decide +kernel) rfl (by omega) (by omega)
          refine va_iald hx hb hK hP 1 0 rfl rfl (vp_in_iff.mpr ⟨by omega, by omega⟩) dX6_inNode_32 ?_
          refine my_eqi (y := 0) rfl ?_
          exact my_rpI hx hb hr hlocks (rfl) dX6_inNode_33
        ·
          have d18 : v.toInt ≥ (2 : Int) := my_nlt c18 rfl (by decide +kernel)
          refine lv_iconst (v := 0) hx hb dX6_inNode_21 (by decide +kernel) ?_
          exact my_rpI hx hb hr hlocks (rfl) dX6_inNode_22
set_option maxHeartbeats 4000000 in
set_option maxRecDepth 100000 in
theorem k0_X6_inNode_2 (l : Launch) (D : va_G) (cI cJ : ClassId) (h0 : Nat) (h1 : Nat) (h2 : Nat) (z : Int32) (v : Int32) : cpI l yX6_inNode wsX6_inNode ({ frames := 0, cells := 0, slots := 0, locals := 0 } : Room) D (tyIJ cI cJ) [.ref h0, .int 2, .int v] [(h0, .inr (6, [.ref h1, .ref h2, .int z])), (h1, .inl (cI, 512, .inl (fun _ => (0 : Int32))))] (fun (r : Int32) => r = 0) := by
  refine cpI.of (cc := cX6_inNode) (maxL := 3) (ret := (some .int)) (by decide) rfl (Nat.le_of_ble_eq_true rfl) ?_
  intro p e s m below meth c ls hx hb hr hts hown hml hlocks hname hK hN hP hl
  have hl : lv_has ls 3 [(0, .ref h0), (1, .int 2), (2, .int v)] := hl
  have hown : s.vm.findClass RX6 = some m.cls := hown
  have hi6 : ∀ w ∈ u_ws RX6 TX6 3, w ∈ wsX6_inNode := by decide +kernel
  have fl9 := hts (.fieldLink RX6 9 "PlaneColumn$Tally" "nodes" "[I") (by decide +kernel)
  refine lv_iload_n hx hb dX6_inNode_0 rfl (lv_at hl 1 rfl) ?_
  refine lv_if_lt (tgt := 21) hx hb dX6_inNode_1 (by decide) (fun c1 => ?_) (fun c1 => ?_)
  ·
    exact absurd c1 (by decide +kernel)
  ·
    refine lv_iload_n hx hb dX6_inNode_4 rfl (lv_at hl 1 rfl) ?_
    refine lv_bipush (v := 8) hx hb dX6_inNode_5 (by decide +kernel) ?_
    refine lv_icmp_gt (tgt := 21) hx hb dX6_inNode_7 (by decide) (fun c7 => ?_) (fun c7 => ?_)
    ·
      exact absurd c7 (by decide +kernel)
    ·
      refine lv_iload_n hx hb dX6_inNode_10 rfl (lv_at hl 2 rfl) ?_
      refine lv_if_lt (tgt := 21) hx hb dX6_inNode_11 (by decide) (fun c11 => ?_) (fun c11 => ?_)
      ·
        have d11 : v.toInt < (0 : Int) := my_lt c11 rfl (by decide +kernel)
        refine lv_iconst (v := 0) hx hb dX6_inNode_21 (by decide +kernel) ?_
        exact my_rpI hx hb hr hlocks (rfl) dX6_inNode_22
      ·
        have d11 : v.toInt ≥ (0 : Int) := my_nlt c11 rfl (by decide +kernel)
        refine lv_iload_n hx hb dX6_inNode_14 rfl (lv_at hl 2 rfl) ?_
        refine lv_iconst (v := 1) hx hb dX6_inNode_15 (by decide +kernel) ?_
        refine lv_iload_n hx hb dX6_inNode_16 rfl (lv_at hl 1 rfl) ?_
        refine lv_ishl hx hb dX6_inNode_17 ?_
        refine my_eqi (y := 4) (by decide +kernel) ?_
        refine lv_icmp_lt (tgt := 23) hx hb dX6_inNode_18 (by decide) (fun c18 => ?_) (fun c18 => ?_)
        ·
          have d18 : v.toInt < (4 : Int) := my_lt c18 rfl (by decide +kernel)
          refine lv_aload_n hx hb dX6_inNode_23 rfl (lv_at hl 0 rfl) ?_
          refine va_get (ci := 6) (v := .ref h1) (C := RX6) (T := TX6) (N := 3) hx hb hts hi6 hown hK hP 0 rfl rfl 0 (by decide) fl9 (fun _ h9 => h9) rfl dX6_inNode_24 ?_
          refine lv_iconst (v := 1) hx hb dX6_inNode_27 (by decide +kernel) ?_
          refine lv_iload_n hx hb dX6_inNode_28 rfl (lv_at hl 1 rfl) ?_
          refine lv_ishl hx hb dX6_inNode_29 ?_
          refine my_eqi (y := 4) (by decide +kernel) ?_
          refine lv_iload_n hx hb dX6_inNode_30 rfl (lv_at hl 2 rfl) ?_
          refine lv_iadd hx hb dX6_inNode_31 ?_
          refine lv_topi (fun z_1 ez_1 => ?_)
          have tz_1 : z_1.toInt = (4 : Int) + v.toInt := by rw [ez_1]; exact my_addI (by decide +kernel) rfl (by omega) (by omega)
          refine va_iald hx hb hK hP 1 0 rfl rfl (vp_in_iff.mpr ⟨by omega, by omega⟩) dX6_inNode_32 ?_
          refine my_eqi (y := 0) rfl ?_
          exact my_rpI hx hb hr hlocks (rfl) dX6_inNode_33
        ·
          have d18 : v.toInt ≥ (4 : Int) := my_nlt c18 rfl (by decide +kernel)
          refine lv_iconst (v := 0) hx hb dX6_inNode_21 (by decide +kernel) ?_
          exact my_rpI hx hb hr hlocks (rfl) dX6_inNode_22
set_option maxHeartbeats 4000000 in
set_option maxRecDepth 100000 in
theorem k0_X6_inNode_3 (l : Launch) (D : va_G) (cI cJ : ClassId) (h0 : Nat) (h1 : Nat) (h2 : Nat) (z : Int32) (v : Int32) : cpI l yX6_inNode wsX6_inNode ({ frames := 0, cells := 0, slots := 0, locals := 0 } : Room) D (tyIJ cI cJ) [.ref h0, .int 3, .int v] [(h0, .inr (6, [.ref h1, .ref h2, .int z])), (h1, .inl (cI, 512, .inl (fun _ => (0 : Int32))))] (fun (r : Int32) => r = 0) := by
  refine cpI.of (cc := cX6_inNode) (maxL := 3) (ret := (some .int)) (by decide) rfl (Nat.le_of_ble_eq_true rfl) ?_
  intro p e s m below meth c ls hx hb hr hts hown hml hlocks hname hK hN hP hl
  have hl : lv_has ls 3 [(0, .ref h0), (1, .int 3), (2, .int v)] := hl
  have hown : s.vm.findClass RX6 = some m.cls := hown
  have hi6 : ∀ w ∈ u_ws RX6 TX6 3, w ∈ wsX6_inNode := by decide +kernel
  have fl9 := hts (.fieldLink RX6 9 "PlaneColumn$Tally" "nodes" "[I") (by decide +kernel)
  refine lv_iload_n hx hb dX6_inNode_0 rfl (lv_at hl 1 rfl) ?_
  refine lv_if_lt (tgt := 21) hx hb dX6_inNode_1 (by decide) (fun c1 => ?_) (fun c1 => ?_)
  ·
    exact absurd c1 (by decide +kernel)
  ·
    refine lv_iload_n hx hb dX6_inNode_4 rfl (lv_at hl 1 rfl) ?_
    refine lv_bipush (v := 8) hx hb dX6_inNode_5 (by decide +kernel) ?_
    refine lv_icmp_gt (tgt := 21) hx hb dX6_inNode_7 (by decide) (fun c7 => ?_) (fun c7 => ?_)
    ·
      exact absurd c7 (by decide +kernel)
    ·
      refine lv_iload_n hx hb dX6_inNode_10 rfl (lv_at hl 2 rfl) ?_
      refine lv_if_lt (tgt := 21) hx hb dX6_inNode_11 (by decide) (fun c11 => ?_) (fun c11 => ?_)
      ·
        have d11 : v.toInt < (0 : Int) := my_lt c11 rfl (by decide +kernel)
        refine lv_iconst (v := 0) hx hb dX6_inNode_21 (by decide +kernel) ?_
        exact my_rpI hx hb hr hlocks (rfl) dX6_inNode_22
      ·
        have d11 : v.toInt ≥ (0 : Int) := my_nlt c11 rfl (by decide +kernel)
        refine lv_iload_n hx hb dX6_inNode_14 rfl (lv_at hl 2 rfl) ?_
        refine lv_iconst (v := 1) hx hb dX6_inNode_15 (by decide +kernel) ?_
        refine lv_iload_n hx hb dX6_inNode_16 rfl (lv_at hl 1 rfl) ?_
        refine lv_ishl hx hb dX6_inNode_17 ?_
        refine my_eqi (y := 8) (by decide +kernel) ?_
        refine lv_icmp_lt (tgt := 23) hx hb dX6_inNode_18 (by decide) (fun c18 => ?_) (fun c18 => ?_)
        ·
          have d18 : v.toInt < (8 : Int) := my_lt c18 rfl (by decide +kernel)
          refine lv_aload_n hx hb dX6_inNode_23 rfl (lv_at hl 0 rfl) ?_
          refine va_get (ci := 6) (v := .ref h1) (C := RX6) (T := TX6) (N := 3) hx hb hts hi6 hown hK hP 0 rfl rfl 0 (by decide) fl9 (fun _ h9 => h9) rfl dX6_inNode_24 ?_
          refine lv_iconst (v := 1) hx hb dX6_inNode_27 (by decide +kernel) ?_
          refine lv_iload_n hx hb dX6_inNode_28 rfl (lv_at hl 1 rfl) ?_
          refine lv_ishl hx hb dX6_inNode_29 ?_
          refine my_eqi (y := 8) (by decide +kernel) ?_
          refine lv_iload_n hx hb dX6_inNode_30 rfl (lv_at hl 2 rfl) ?_
          refine lv_iadd hx hb dX6_inNode_31 ?_
          refine lv_topi (fun z_1 ez_1 => ?_)
          have tz_1 : z_1.toInt = (8 : Int) + v.toInt := by rw [ez_1]; exact my_addI (by decide +kernel) rfl (by omega) (by omega)
          refine va_iald hx hb hK hP 1 0 rfl rfl (vp_in_iff.mpr ⟨by omega, by omega⟩) dX6_inNode_32 ?_
          refine my_eqi (y := 0) rfl ?_
          exact my_rpI hx hb hr hlocks (rfl) dX6_inNode_33
        ·
          have d18 : v.toInt ≥ (8 : Int) := my_nlt c18 rfl (by decide +kernel)
          refine lv_iconst (v := 0) hx hb dX6_inNode_21 (by decide +kernel) ?_
          exact my_rpI hx hb hr hlocks (rfl) dX6_inNode_22
set_option maxHeartbeats 4000000 in
set_option maxRecDepth 100000 in
theorem k0_X6_inNode_4 (l : Launch) (D : va_G) (cI cJ : ClassId) (h0 : Nat) (h1 : Nat) (h2 : Nat) (z : Int32) (v : Int32) : cpI l yX6_inNode wsX6_inNode ({ frames := 0, cells := 0, slots := 0, locals := 0 } : Room) D (tyIJ cI cJ) [.ref h0, .int 4, .int v] [(h0, .inr (6, [.ref h1, .ref h2, .int z])), (h1, .inl (cI, 512, .inl (fun _ => (0 : Int32))))] (fun (r : Int32) => r = 0) := by
  refine cpI.of (cc := cX6_inNode) (maxL := 3) (ret := (some .int)) (by decide) rfl (Nat.le_of_ble_eq_true rfl) ?_
  intro p e s m below meth c ls hx hb hr hts hown hml hlocks hname hK hN hP hl
  have hl : lv_has ls 3 [(0, .ref h0), (1, .int 4), (2, .int v)] := hl
  have hown : s.vm.findClass RX6 = some m.cls := hown
  have hi6 : ∀ w ∈ u_ws RX6 TX6 3, w ∈ wsX6_inNode := by decide +kernel
  have fl9 := hts (.fieldLink RX6 9 "PlaneColumn$Tally" "nodes" "[I") (by decide +kernel)
  refine lv_iload_n hx hb dX6_inNode_0 rfl (lv_at hl 1 rfl) ?_
  refine lv_if_lt (tgt := 21) hx hb dX6_inNode_1 (by decide) (fun c1 => ?_) (fun c1 => ?_)
  ·
    exact absurd c1 (by decide +kernel)
  ·
    refine lv_iload_n hx hb dX6_inNode_4 rfl (lv_at hl 1 rfl) ?_
    refine lv_bipush (v := 8) hx hb dX6_inNode_5 (by decide +kernel) ?_
    refine lv_icmp_gt (tgt := 21) hx hb dX6_inNode_7 (by decide) (fun c7 => ?_) (fun c7 => ?_)
    ·
      exact absurd c7 (by decide +kernel)
    ·
      refine lv_iload_n hx hb dX6_inNode_10 rfl (lv_at hl 2 rfl) ?_
      refine lv_if_lt (tgt := 21) hx hb dX6_inNode_11 (by decide) (fun c11 => ?_) (fun c11 => ?_)
      ·
        have d11 : v.toInt < (0 : Int) := my_lt c11 rfl (by decide +kernel)
        refine lv_iconst (v := 0) hx hb dX6_inNode_21 (by decide +kernel) ?_
        exact my_rpI hx hb hr hlocks (rfl) dX6_inNode_22
      ·
        have d11 : v.toInt ≥ (0 : Int) := my_nlt c11 rfl (by decide +kernel)
        refine lv_iload_n hx hb dX6_inNode_14 rfl (lv_at hl 2 rfl) ?_
        refine lv_iconst (v := 1) hx hb dX6_inNode_15 (by decide +kernel) ?_
        refine lv_iload_n hx hb dX6_inNode_16 rfl (lv_at hl 1 rfl) ?_
        refine lv_ishl hx hb dX6_inNode_17 ?_
        refine my_eqi (y := 16) (by decide +kernel) ?_
        refine lv_icmp_lt (tgt := 23) hx hb dX6_inNode_18 (by decide) (fun c18 => ?_) (fun c18 => ?_)
        ·
          have d18 : v.toInt < (16 : Int) := my_lt c18 rfl (by decide +kernel)
          refine lv_aload_n hx hb dX6_inNode_23 rfl (lv_at hl 0 rfl) ?_
          refine va_get (ci := 6) (v := .ref h1) (C := RX6) (T := TX6) (N := 3) hx hb hts hi6 hown hK hP 0 rfl rfl 0 (by decide) fl9 (fun _ h9 => h9) rfl dX6_inNode_24 ?_
          refine lv_iconst (v := 1) hx hb dX6_inNode_27 (by decide +kernel) ?_
          refine lv_iload_n hx hb dX6_inNode_28 rfl (lv_at hl 1 rfl) ?_
          refine lv_ishl hx hb dX6_inNode_29 ?_
          refine my_eqi (y := 16) (by decide +kernel) ?_
          refine lv_iload_n hx hb dX6_inNode_30 rfl (lv_at hl 2 rfl) ?_
          refine lv_iadd hx hb dX6_inNode_31 ?_
          refine lv_topi (fun z_1 ez_1 => ?_)
          have tz_1 : z_1.toInt = (16 : Int) + v.toInt := by rw [ez_1]; exact my_addI (by decide +kernel) rfl (by omega) (by omega)
          refine va_iald hx hb hK hP 1 0 rfl rfl (vp_in_iff.mpr ⟨by omega, by omega⟩) dX6_inNode_32 ?_
          refine my_eqi (y := 0) rfl ?_
          exact my_rpI hx hb hr hlocks (rfl) dX6_inNode_33
        ·
          have d18 : v.toInt ≥ (16 : Int) := my_nlt c18 rfl (by decide +kernel)
          refine lv_iconst (v := 0) hx hb dX6_inNode_21 (by decide +kernel) ?_
          exact my_rpI hx hb hr hlocks (rfl) dX6_inNode_22
set_option maxHeartbeats 4000000 in
set_option maxRecDepth 100000 in
theorem k0_X6_inNode_5 (l : Launch) (D : va_G) (cI cJ : ClassId) (h0 : Nat) (h1 : Nat) (h2 : Nat) (z : Int32) (v : Int32) : cpI l yX6_inNode wsX6_inNode ({ frames := 0, cells := 0, slots := 0, locals := 0 } : Room) D (tyIJ cI cJ) [.ref h0, .int 5, .int v] [(h0, .inr (6, [.ref h1, .ref h2, .int z])), (h1, .inl (cI, 512, .inl (fun _ => (0 : Int32))))] (fun (r : Int32) => r = 0) := by
  refine cpI.of (cc := cX6_inNode) (maxL := 3) (ret := (some .int)) (by decide) rfl (Nat.le_of_ble_eq_true rfl) ?_
  intro p e s m below meth c ls hx hb hr hts hown hml hlocks hname hK hN hP hl
  have hl : lv_has ls 3 [(0, .ref h0), (1, .int 5), (2, .int v)] := hl
  have hown : s.vm.findClass RX6 = some m.cls := hown
  have hi6 : ∀ w ∈ u_ws RX6 TX6 3, w ∈ wsX6_inNode := by decide +kernel
  have fl9 := hts (.fieldLink RX6 9 "PlaneColumn$Tally" "nodes" "[I") (by decide +kernel)
  refine lv_iload_n hx hb dX6_inNode_0 rfl (lv_at hl 1 rfl) ?_
  refine lv_if_lt (tgt := 21) hx hb dX6_inNode_1 (by decide) (fun c1 => ?_) (fun c1 => ?_)
  ·
    exact absurd c1 (by decide +kernel)
  ·
    refine lv_iload_n hx hb dX6_inNode_4 rfl (lv_at hl 1 rfl) ?_
    refine lv_bipush (v := 8) hx hb dX6_inNode_5 (by decide +kernel) ?_
    refine lv_icmp_gt (tgt := 21) hx hb dX6_inNode_7 (by decide) (fun c7 => ?_) (fun c7 => ?_)
    ·
      exact absurd c7 (by decide +kernel)
    ·
      refine lv_iload_n hx hb dX6_inNode_10 rfl (lv_at hl 2 rfl) ?_
      refine lv_if_lt (tgt := 21) hx hb dX6_inNode_11 (by decide) (fun c11 => ?_) (fun c11 => ?_)
      ·
        have d11 : v.toInt < (0 : Int) := my_lt c11 rfl (by decide +kernel)
        refine lv_iconst (v := 0) hx hb dX6_inNode_21 (by decide +kernel) ?_
        exact my_rpI hx hb hr hlocks (rfl) dX6_inNode_22
      ·
        have d11 : v.toInt ≥ (0 : Int) := my_nlt c11 rfl (by decide +kernel)
        refine lv_iload_n hx hb dX6_inNode_14 rfl (lv_at hl 2 rfl) ?_
        refine lv_iconst (v := 1) hx hb dX6_inNode_15 (by decide +kernel) ?_
        refine lv_iload_n hx hb dX6_inNode_16 rfl (lv_at hl 1 rfl) ?_
        refine lv_ishl hx hb dX6_inNode_17 ?_
        refine my_eqi (y := 32) (by decide +kernel) ?_
        refine lv_icmp_lt (tgt := 23) hx hb dX6_inNode_18 (by decide) (fun c18 => ?_) (fun c18 => ?_)
        ·
          have d18 : v.toInt < (32 : Int) := my_lt c18 rfl (by decide +kernel)
          refine lv_aload_n hx hb dX6_inNode_23 rfl (lv_at hl 0 rfl) ?_
          refine va_get (ci := 6) (v := .ref h1) (C := RX6) (T := TX6) (N := 3) hx hb hts hi6 hown hK hP 0 rfl rfl 0 (by decide) fl9 (fun _ h9 => h9) rfl dX6_inNode_24 ?_
          refine lv_iconst (v := 1) hx hb dX6_inNode_27 (by decide +kernel) ?_
          refine lv_iload_n hx hb dX6_inNode_28 rfl (lv_at hl 1 rfl) ?_
          refine lv_ishl hx hb dX6_inNode_29 ?_
          refine my_eqi (y := 32) (by decide +kernel) ?_
          refine lv_iload_n hx hb dX6_inNode_30 rfl (lv_at hl 2 rfl) ?_
          refine lv_iadd hx hb dX6_inNode_31 ?_
          refine lv_topi (fun z_1 ez_1 => ?_)
          have tz_1 : z_1.toInt = (32 : Int) + v.toInt := by rw [ez_1]; exact my_addI (by decide +kernel) rfl (by omega) (by omega)
          refine va_iald hx hb hK hP 1 0 rfl rfl (vp_in_iff.mpr ⟨by omega, by omega⟩) dX6_inNode_32 ?_
          refine my_eqi (y := 0) rfl ?_
          exact my_rpI hx hb hr hlocks (rfl) dX6_inNode_33
        ·
          have d18 : v.toInt ≥ (32 : Int) := my_nlt c18 rfl (by decide +kernel)
          refine lv_iconst (v := 0) hx hb dX6_inNode_21 (by decide +kernel) ?_
          exact my_rpI hx hb hr hlocks (rfl) dX6_inNode_22
set_option maxHeartbeats 4000000 in
set_option maxRecDepth 100000 in
theorem k0_X6_inNode_6 (l : Launch) (D : va_G) (cI cJ : ClassId) (h0 : Nat) (h1 : Nat) (h2 : Nat) (z : Int32) (v : Int32) : cpI l yX6_inNode wsX6_inNode ({ frames := 0, cells := 0, slots := 0, locals := 0 } : Room) D (tyIJ cI cJ) [.ref h0, .int 6, .int v] [(h0, .inr (6, [.ref h1, .ref h2, .int z])), (h1, .inl (cI, 512, .inl (fun _ => (0 : Int32))))] (fun (r : Int32) => r = 0) := by
  refine cpI.of (cc := cX6_inNode) (maxL := 3) (ret := (some .int)) (by decide) rfl (Nat.le_of_ble_eq_true rfl) ?_
  intro p e s m below meth c ls hx hb hr hts hown hml hlocks hname hK hN hP hl
  have hl : lv_has ls 3 [(0, .ref h0), (1, .int 6), (2, .int v)] := hl
  have hown : s.vm.findClass RX6 = some m.cls := hown
  have hi6 : ∀ w ∈ u_ws RX6 TX6 3, w ∈ wsX6_inNode := by decide +kernel
  have fl9 := hts (.fieldLink RX6 9 "PlaneColumn$Tally" "nodes" "[I") (by decide +kernel)
  refine lv_iload_n hx hb dX6_inNode_0 rfl (lv_at hl 1 rfl) ?_
  refine lv_if_lt (tgt := 21) hx hb dX6_inNode_1 (by decide) (fun c1 => ?_) (fun c1 => ?_)
  ·
    exact absurd c1 (by decide +kernel)
  ·
    refine lv_iload_n hx hb dX6_inNode_4 rfl (lv_at hl 1 rfl) ?_
    refine lv_bipush (v := 8) hx hb dX6_inNode_5 (by decide +kernel) ?_
    refine lv_icmp_gt (tgt := 21) hx hb dX6_inNode_7 (by decide) (fun c7 => ?_) (fun c7 => ?_)
    ·
      exact absurd c7 (by decide +kernel)
    ·
      refine lv_iload_n hx hb dX6_inNode_10 rfl (lv_at hl 2 rfl) ?_
      refine lv_if_lt (tgt := 21) hx hb dX6_inNode_11 (by decide) (fun c11 => ?_) (fun c11 => ?_)
      ·
        have d11 : v.toInt < (0 : Int) := my_lt c11 rfl (by decide +kernel)
        refine lv_iconst (v := 0) hx hb dX6_inNode_21 (by decide +kernel) ?_
        exact my_rpI hx hb hr hlocks (rfl) dX6_inNode_22
      ·
        have d11 : v.toInt ≥ (0 : Int) := my_nlt c11 rfl (by decide +kernel)
        refine lv_iload_n hx hb dX6_inNode_14 rfl (lv_at hl 2 rfl) ?_
        refine lv_iconst (v := 1) hx hb dX6_inNode_15 (by decide +kernel) ?_
        refine lv_iload_n hx hb dX6_inNode_16 rfl (lv_at hl 1 rfl) ?_
        refine lv_ishl hx hb dX6_inNode_17 ?_
        refine my_eqi (y := 64) (by decide +kernel) ?_
        refine lv_icmp_lt (tgt := 23) hx hb dX6_inNode_18 (by decide) (fun c18 => ?_) (fun c18 => ?_)
        ·
          have d18 : v.toInt < (64 : Int) := my_lt c18 rfl (by decide +kernel)
          refine lv_aload_n hx hb dX6_inNode_23 rfl (lv_at hl 0 rfl) ?_
          refine va_get (ci := 6) (v := .ref h1) (C := RX6) (T := TX6) (N := 3) hx hb hts hi6 hown hK hP 0 rfl rfl 0 (by decide) fl9 (fun _ h9 => h9) rfl dX6_inNode_24 ?_
          refine lv_iconst (v := 1) hx hb dX6_inNode_27 (by decide +kernel) ?_
          refine lv_iload_n hx hb dX6_inNode_28 rfl (lv_at hl 1 rfl) ?_
          refine lv_ishl hx hb dX6_inNode_29 ?_
          refine my_eqi (y := 64) (by decide +kernel) ?_
          refine lv_iload_n hx hb dX6_inNode_30 rfl (lv_at hl 2 rfl) ?_
          refine lv_iadd hx hb dX6_inNode_31 ?_
          refine lv_topi (fun z_1 ez_1 => ?_)
          have tz_1 : z_1.toInt = (64 : Int) + v.toInt := by rw [ez_1]; exact my_addI (by decide +kernel) rfl (by omega) (by omega)
          refine va_iald hx hb hK hP 1 0 rfl rfl (vp_in_iff.mpr ⟨by omega, by omega⟩) dX6_inNode_32 ?_
          refine my_eqi (y := 0) rfl ?_
          exact my_rpI hx hb hr hlocks (rfl) dX6_inNode_33
        ·
          have d18 : v.toInt ≥ (64 : Int) := my_nlt c18 rfl (by decide +kernel)
          refine lv_iconst (v := 0) hx hb dX6_inNode_21 (by decide +kernel) ?_
          exact my_rpI hx hb hr hlocks (rfl) dX6_inNode_22
set_option maxHeartbeats 4000000 in
set_option maxRecDepth 100000 in
theorem k0_X6_inNode_7 (l : Launch) (D : va_G) (cI cJ : ClassId) (h0 : Nat) (h1 : Nat) (h2 : Nat) (z : Int32) (v : Int32) : cpI l yX6_inNode wsX6_inNode ({ frames := 0, cells := 0, slots := 0, locals := 0 } : Room) D (tyIJ cI cJ) [.ref h0, .int 7, .int v] [(h0, .inr (6, [.ref h1, .ref h2, .int z])), (h1, .inl (cI, 512, .inl (fun _ => (0 : Int32))))] (fun (r : Int32) => r = 0) := by
  refine cpI.of (cc := cX6_inNode) (maxL := 3) (ret := (some .int)) (by decide) rfl (Nat.le_of_ble_eq_true rfl) ?_
  intro p e s m below meth c ls hx hb hr hts hown hml hlocks hname hK hN hP hl
  have hl : lv_has ls 3 [(0, .ref h0), (1, .int 7), (2, .int v)] := hl
  have hown : s.vm.findClass RX6 = some m.cls := hown
  have hi6 : ∀ w ∈ u_ws RX6 TX6 3, w ∈ wsX6_inNode := by decide +kernel
  have fl9 := hts (.fieldLink RX6 9 "PlaneColumn$Tally" "nodes" "[I") (by decide +kernel)
  refine lv_iload_n hx hb dX6_inNode_0 rfl (lv_at hl 1 rfl) ?_
  refine lv_if_lt (tgt := 21) hx hb dX6_inNode_1 (by decide) (fun c1 => ?_) (fun c1 => ?_)
  ·
    exact absurd c1 (by decide +kernel)
  ·
    refine lv_iload_n hx hb dX6_inNode_4 rfl (lv_at hl 1 rfl) ?_
    refine lv_bipush (v := 8) hx hb dX6_inNode_5 (by decide +kernel) ?_
    refine lv_icmp_gt (tgt := 21) hx hb dX6_inNode_7 (by decide) (fun c7 => ?_) (fun c7 => ?_)
    ·
      exact absurd c7 (by decide +kernel)
    ·
      refine lv_iload_n hx hb dX6_inNode_10 rfl (lv_at hl 2 rfl) ?_
      refine lv_if_lt (tgt := 21) hx hb dX6_inNode_11 (by decide) (fun c11 => ?_) (fun c11 => ?_)
      ·
        have d11 : v.toInt < (0 : Int) := my_lt c11 rfl (by decide +kernel)
        refine lv_iconst (v := 0) hx hb dX6_inNode_21 (by decide +kernel) ?_
        exact my_rpI hx hb hr hlocks (rfl) dX6_inNode_22
      ·
        have d11 : v.toInt ≥ (0 : Int) := my_nlt c11 rfl (by decide +kernel)
        refine lv_iload_n hx hb dX6_inNode_14 rfl (lv_at hl 2 rfl) ?_
        refine lv_iconst (v := 1) hx hb dX6_inNode_15 (by decide +kernel) ?_
        refine lv_iload_n hx hb dX6_inNode_16 rfl (lv_at hl 1 rfl) ?_
        refine lv_ishl hx hb dX6_inNode_17 ?_
        refine my_eqi (y := 128) (by decide +kernel) ?_
        refine lv_icmp_lt (tgt := 23) hx hb dX6_inNode_18 (by decide) (fun c18 => ?_) (fun c18 => ?_)
        ·
          have d18 : v.toInt < (128 : Int) := my_lt c18 rfl (by decide +kernel)
          refine lv_aload_n hx hb dX6_inNode_23 rfl (lv_at hl 0 rfl) ?_
          refine va_get (ci := 6) (v := .ref h1) (C := RX6) (T := TX6) (N := 3) hx hb hts hi6 hown hK hP 0 rfl rfl 0 (by decide) fl9 (fun _ h9 => h9) rfl dX6_inNode_24 ?_
          refine lv_iconst (v := 1) hx hb dX6_inNode_27 (by decide +kernel) ?_
          refine lv_iload_n hx hb dX6_inNode_28 rfl (lv_at hl 1 rfl) ?_
          refine lv_ishl hx hb dX6_inNode_29 ?_
          refine my_eqi (y := 128) (by decide +kernel) ?_
          refine lv_iload_n hx hb dX6_inNode_30 rfl (lv_at hl 2 rfl) ?_
          refine lv_iadd hx hb dX6_inNode_31 ?_
          refine lv_topi (fun z_1 ez_1 => ?_)
          have tz_1 : z_1.toInt = (128 : Int) + v.toInt := by rw [ez_1]; exact my_addI (by decide +kernel) rfl (by omega) (by omega)
          refine va_iald hx hb hK hP 1 0 rfl rfl (vp_in_iff.mpr ⟨by omega, by omega⟩) dX6_inNode_32 ?_
          refine my_eqi (y := 0) rfl ?_
          exact my_rpI hx hb hr hlocks (rfl) dX6_inNode_33
        ·
          have d18 : v.toInt ≥ (128 : Int) := my_nlt c18 rfl (by decide +kernel)
          refine lv_iconst (v := 0) hx hb dX6_inNode_21 (by decide +kernel) ?_
          exact my_rpI hx hb hr hlocks (rfl) dX6_inNode_22
set_option maxHeartbeats 4000000 in
set_option maxRecDepth 100000 in
theorem k0_X6_inNode_8 (l : Launch) (D : va_G) (cI cJ : ClassId) (h0 : Nat) (h1 : Nat) (h2 : Nat) (z : Int32) (v : Int32) : cpI l yX6_inNode wsX6_inNode ({ frames := 0, cells := 0, slots := 0, locals := 0 } : Room) D (tyIJ cI cJ) [.ref h0, .int 8, .int v] [(h0, .inr (6, [.ref h1, .ref h2, .int z])), (h1, .inl (cI, 512, .inl (fun _ => (0 : Int32))))] (fun (r : Int32) => r = 0) := by
  refine cpI.of (cc := cX6_inNode) (maxL := 3) (ret := (some .int)) (by decide) rfl (Nat.le_of_ble_eq_true rfl) ?_
  intro p e s m below meth c ls hx hb hr hts hown hml hlocks hname hK hN hP hl
  have hl : lv_has ls 3 [(0, .ref h0), (1, .int 8), (2, .int v)] := hl
  have hown : s.vm.findClass RX6 = some m.cls := hown
  have hi6 : ∀ w ∈ u_ws RX6 TX6 3, w ∈ wsX6_inNode := by decide +kernel
  have fl9 := hts (.fieldLink RX6 9 "PlaneColumn$Tally" "nodes" "[I") (by decide +kernel)
  refine lv_iload_n hx hb dX6_inNode_0 rfl (lv_at hl 1 rfl) ?_
  refine lv_if_lt (tgt := 21) hx hb dX6_inNode_1 (by decide) (fun c1 => ?_) (fun c1 => ?_)
  ·
    exact absurd c1 (by decide +kernel)
  ·
    refine lv_iload_n hx hb dX6_inNode_4 rfl (lv_at hl 1 rfl) ?_
    refine lv_bipush (v := 8) hx hb dX6_inNode_5 (by decide +kernel) ?_
    refine lv_icmp_gt (tgt := 21) hx hb dX6_inNode_7 (by decide) (fun c7 => ?_) (fun c7 => ?_)
    ·
      exact absurd c7 (by decide +kernel)
    ·
      refine lv_iload_n hx hb dX6_inNode_10 rfl (lv_at hl 2 rfl) ?_
      refine lv_if_lt (tgt := 21) hx hb dX6_inNode_11 (by decide) (fun c11 => ?_) (fun c11 => ?_)
      ·
        have d11 : v.toInt < (0 : Int) := my_lt c11 rfl (by decide +kernel)
        refine lv_iconst (v := 0) hx hb dX6_inNode_21 (by decide +kernel) ?_
        exact my_rpI hx hb hr hlocks (rfl) dX6_inNode_22
      ·
        have d11 : v.toInt ≥ (0 : Int) := my_nlt c11 rfl (by decide +kernel)
        refine lv_iload_n hx hb dX6_inNode_14 rfl (lv_at hl 2 rfl) ?_
        refine lv_iconst (v := 1) hx hb dX6_inNode_15 (by decide +kernel) ?_
        refine lv_iload_n hx hb dX6_inNode_16 rfl (lv_at hl 1 rfl) ?_
        refine lv_ishl hx hb dX6_inNode_17 ?_
        refine my_eqi (y := 256) (by decide +kernel) ?_
        refine lv_icmp_lt (tgt := 23) hx hb dX6_inNode_18 (by decide) (fun c18 => ?_) (fun c18 => ?_)
        ·
          have d18 : v.toInt < (256 : Int) := my_lt c18 rfl (by decide +kernel)
          refine lv_aload_n hx hb dX6_inNode_23 rfl (lv_at hl 0 rfl) ?_
          refine va_get (ci := 6) (v := .ref h1) (C := RX6) (T := TX6) (N := 3) hx hb hts hi6 hown hK hP 0 rfl rfl 0 (by decide) fl9 (fun _ h9 => h9) rfl dX6_inNode_24 ?_
          refine lv_iconst (v := 1) hx hb dX6_inNode_27 (by decide +kernel) ?_
          refine lv_iload_n hx hb dX6_inNode_28 rfl (lv_at hl 1 rfl) ?_
          refine lv_ishl hx hb dX6_inNode_29 ?_
          refine my_eqi (y := 256) (by decide +kernel) ?_
          refine lv_iload_n hx hb dX6_inNode_30 rfl (lv_at hl 2 rfl) ?_
          refine lv_iadd hx hb dX6_inNode_31 ?_
          refine lv_topi (fun z_1 ez_1 => ?_)
          have tz_1 : z_1.toInt = (256 : Int) + v.toInt := by rw [ez_1]; exact my_addI (by decide +kernel) rfl (by omega) (by omega)
          refine va_iald hx hb hK hP 1 0 rfl rfl (vp_in_iff.mpr ⟨by omega, by omega⟩) dX6_inNode_32 ?_
          refine my_eqi (y := 0) rfl ?_
          exact my_rpI hx hb hr hlocks (rfl) dX6_inNode_33
        ·
          have d18 : v.toInt ≥ (256 : Int) := my_nlt c18 rfl (by decide +kernel)
          refine lv_iconst (v := 0) hx hb dX6_inNode_21 (by decide +kernel) ?_
          exact my_rpI hx hb hr hlocks (rfl) dX6_inNode_22
set_option maxHeartbeats 4000000 in
set_option maxRecDepth 100000 in
theorem k0_X6_timesOf (l : Launch) (D : va_G) (cI cJ : ClassId) (h0 : Nat) (h1 : Nat) (h2 : Nat) (z : Int32) (v : Int32) : cpI l yX6_timesOf wsX6_timesOf ({ frames := 1, cells := 0, slots := 0, locals := 60 } : Room) D (tyIJ cI cJ) [.ref h0, .int v] [(h0, .inr (6, [.ref h1, .ref h2, .int z])), (h1, .inl (cI, 512, .inl (fun _ => (0 : Int32))))] (fun (r : Int32) => r = 0) := by
  refine cpI.of (cc := cX6_timesOf) (maxL := 2) (ret := (some .int)) (by decide) rfl (Nat.le_of_ble_eq_true rfl) ?_
  intro p e s m below meth c ls hx hb hr hts hown hml hlocks hname hK hN hP hl
  have hl : lv_has ls 2 [(0, .ref h0), (1, .int v)] := hl
  have hown : s.vm.findClass RX6 = some m.cls := hown
  refine lv_aload_n hx hb dX6_timesOf_0 rfl (lv_at hl 0 rfl) ?_
  refine lv_bipush (v := 8) hx hb dX6_timesOf_1 (by decide +kernel) ?_
  refine lv_iload_n hx hb dX6_timesOf_3 rfl (lv_at hl 1 rfl) ?_
  refine my_gpI (my_pV (As := [.int 8, .int v]) (rest := []) (ci := 6) ⟨hx, hb, hml, hown, hts⟩ (cwV 2 hts gX6_timesOf_X6_inNode rfl rfl rfl (by decide +kernel) ⟨Nat.le_of_ble_eq_true rfl, Nat.le_of_ble_eq_true rfl⟩) hN hK hP [0, 1] rfl 0 rfl rfl rfl rfl hl.1 rfl (Nat.le_of_ble_eq_true rfl) dX6_timesOf_4 ⟨Nat.le_of_ble_eq_true rfl, Nat.le_of_ble_eq_true rfl⟩  (k0_X6_inNode_8 l D cI cJ h0 h1 h2 z v)) (fun r hp => ?_)
  obtain rfl := hp
  exact my_rpI hx hb hr hlocks (rfl) dX6_timesOf_7
set_option maxHeartbeats 4000000 in
set_option maxRecDepth 100000 in
theorem k0_X6_sort (l : Launch) (D : va_G) (cI cJ : ClassId) (h0 : Nat) (h1 : Nat) (h2 : Nat) (z : Int32) (g : Nat → Int32) : ctV l yX6_sort wsX6_sort ({ frames := 2, cells := 0, slots := 0, locals := 120 } : Room) D (tyIJ cI cJ) [.ref h0] [(h0, .inr (6, [.ref h1, .ref h2, .int z])), (h1, .inl (cI, 512, .inl (fun _ => (0 : Int32)))), (h2, .inl (cI, 64, .inl g))] (fun (u : va_W) => u = [(h0, .inr (6, [.ref h1, .ref h2, .int 0])), (h1, .inl (cI, 512, .inl (fun _ => (0 : Int32)))), (h2, .inl (cI, 64, .inl g))]) := by
  refine ctV.of (cc := cX6_sort) (maxL := 4) (ret := none) (by decide) rfl (Nat.le_of_ble_eq_true rfl) ?_
  intro p e s m below meth c ls A hx hb hr hts hown hml hlocks hname hA hK hN hP hD hS hl
  have hl : lv_has ls 4 [(0, .ref h0)] := hl
  have hown : s.vm.findClass RX6 = some m.cls := hown
  have hi6 : ∀ w ∈ u_ws RX6 TX6 3, w ∈ wsX6_sort := by decide +kernel
  have fl18 := hts (.fieldLink RX6 18 "PlaneColumn$Tally" "size" "I") (by decide +kernel)
  refine lv_aload_n hx hb dX6_sort_0 rfl (lv_at hl 0 rfl) ?_
  refine lv_iconst (v := 0) hx hb dX6_sort_1 (by decide +kernel) ?_
  refine va_put (ci := 6) (v := .int 0) (ty := (.int)) (C := RX6) (T := TX6) (N := 3) hx hb hts hi6 tyX6 tyX6_ok nmX6 hown hK hP hD hS 0 rfl rfl 2 (by decide) fl18 (fun _ h9 => h9) rfl (by decide +kernel) rfl rfl (Nat.le_of_ble_eq_true rfl) dX6_sort_2 (fun H locs hP hD hS => ?_)
  have hP : va_P D vwCl [(h0, .inr (6, [.ref h1, .ref h2, .int 0])), (h1, .inl (cI, 512, .inl (fun _ => (0 : Int32)))), (h2, .inl (cI, 64, .inl g))] H := hP
  have hD : va_D A [(h0, .inr (6, [.ref h1, .ref h2, .int 0])), (h1, .inl (cI, 512, .inl (fun _ => (0 : Int32)))), (h2, .inl (cI, 64, .inl g))] := hD
  refine lv_iconst (v := 0) hx hb dX6_sort_5 (by decide +kernel) ?_
  refine lv_istore_n (lv' := [(1, .int 0), (0, .ref h0)]) hx hb dX6_sort_6 rfl hl (by decide) rfl (fun ls hl => ?_)
  have loop7 : ∀ (n9 : Nat) (k : Nat), 256 - k < n9 → (k ≤ 256) → ∀ (H : Heap) (locs : List Loc) (ls : Array Slot), va_P D vwCl [(h0, .inr (6, [.ref h1, .ref h2, .int 0])), (h1, .inl (cI, 512, .inl (fun _ => (0 : Int32)))), (h2, .inl (cI, 64, .inl g))] H → va_D A [(h0, .inr (6, [.ref h1, .ref h2, .int 0])), (h1, .inl (cI, 512, .inl (fun _ => (0 : Int32)))), (h2, .inl (cI, 64, .inl g))] → va_S A s.heap H locs → lv_has ls 4 [(1, .int (nI k)), (0, .ref h0)] → W p l e ({ frames := 2, cells := 0, slots := 0, locals := 120 } : Room) s m [.ref h0].toArray below meth c H locs 0 0 (MQ below (va_Qv (fun (u : va_W) => u = [(h0, .inr (6, [.ref h1, .ref h2, .int 0])), (h1, .inl (cI, 512, .inl (fun _ => (0 : Int32)))), (h2, .inl (cI, 64, .inl g))]) (my_B D (tyIJ cI cJ) A) A) [.ref h0].toArray s 0 0 A) (F0 m 7 ls []) := by
    intro n9
    induction n9 with
    | zero =>
      intro k hn9
      exact absurd hn9 (Nat.not_lt_zero _)
    | succ n9 ih7 =>
      intro k hn9 hk H locs ls hP hD hS hl
      refine lv_iload_n hx hb dX6_sort_7 rfl (lv_at hl 0 rfl) ?_
      refine lv_sipush (v := 255) hx hb dX6_sort_8 (by decide +kernel) ?_
      refine lv_icmp_gt (tgt := 71) hx hb dX6_sort_11 (by decide) (fun c11 => ?_) (fun c11 => ?_)
      ·
        have d11 : ((k : Nat) : Int) > (255 : Int) := my_gt c11 (nI_toInt (by omega)) (by decide +kernel)
        exact my_retV hx hb hr hlocks hK hS [(h0, .inr (6, [.ref h1, .ref h2, .int 0])), (h1, .inl (cI, 512, .inl (fun _ => (0 : Int32)))), (h2, .inl (cI, 64, .inl g))] (hP.sub [0, 1, 2] rfl) (hD.sub [0, 1, 2] (by decide) rfl) (rfl) dX6_sort_71
      ·
        have d11 : ((k : Nat) : Int) ≤ (255 : Int) := my_ngt c11 (nI_toInt (by omega)) (by decide +kernel)
        refine lv_aload_n hx hb dX6_sort_14 rfl (lv_at hl 1 rfl) ?_
        refine lv_iload_n hx hb dX6_sort_15 rfl (lv_at hl 0 rfl) ?_
        refine my_gpI (my_pV (As := [.int (nI k)]) (rest := []) (ci := 6) ⟨hx, hb, hml, hown, hts⟩ (cwV 1 hts gX6_sort_X6_timesOf rfl rfl rfl (by decide +kernel) ⟨Nat.le_of_ble_eq_true rfl, Nat.le_of_ble_eq_true rfl⟩) hN hK hP [0, 1] rfl 0 rfl rfl rfl rfl hl.1 rfl (Nat.le_of_ble_eq_true rfl) dX6_sort_16 ⟨Nat.le_of_ble_eq_true rfl, Nat.le_of_ble_eq_true rfl⟩  (k0_X6_timesOf l D cI cJ h0 h1 h2 (0 : Int32) (nI k))) (fun r hp => ?_)
        obtain rfl := hp
        refine lv_istore_n (lv' := [(2, .int 0), (1, .int (nI k)), (0, .ref h0)]) hx hb dX6_sort_19 rfl hl (by decide) rfl (fun ls hl => ?_)
        refine lv_iconst (v := 0) hx hb dX6_sort_20 (by decide +kernel) ?_
        refine lv_istore_n (lv' := [(3, .int 0), (2, .int 0), (1, .int (nI k)), (0, .ref h0)]) hx hb dX6_sort_21 rfl hl (by decide) rfl (fun ls hl => ?_)
        refine lv_iload_n hx hb dX6_sort_22 rfl (lv_at hl 0 rfl) ?_
        refine lv_iload_n hx hb dX6_sort_23 rfl (lv_at hl 1 rfl) ?_
        refine lv_icmp_ge (tgt := 65) hx hb dX6_sort_24 (by decide) (fun c24 => ?_) (fun c24 => ?_)
        ·
          refine lv_iinc (v := nI (k + 1)) (lv' := [(1, .int (nI (k + 1))), (3, .int 0), (2, .int 0), (0, .ref h0)]) hx hb dX6_sort_65 hl (k := 2) rfl (my_incN k 1 (by decide +kernel)) (by decide) rfl (fun ls hl => ?_)
          refine lv_goto (tgt := 7) hx hb dX6_sort_68 (by decide) ?_
          exact ih7  (k + 1) (by omega) (by omega) _ _ ls (hP.sub [0, 1, 2] rfl) (hD.sub [0, 1, 2] (by decide) rfl) hS (lv_sub hl [0, 3] rfl)
        ·
          exact absurd c24 (by decide +kernel)
  exact loop7 ((256 - 0) + 1) 0 (Nat.lt_succ_self _) (by first | omega | decide +kernel) _ _ ls (hP.sub [0, 1, 2] rfl) (hD.sub [0, 1, 2] (by decide) rfl) hS (lv_sub hl [0, 1] rfl)
set_option maxHeartbeats 4000000 in
set_option maxRecDepth 100000 in
theorem k0_X6_take (l : Launch) (D : va_G) (cI cJ : ClassId) (h0 : Nat) (h1 : Nat) (h2 : Nat) (nn : Nat) (z : Int32) (g : Nat → Int32) : ctV l yX6_take wsX6_take ({ frames := 3, cells := 0, slots := 0, locals := 180 } : Room) D (tyIJ cI cJ) [.ref h0, .ref nn, .int 0, .int 0] [(h0, .inr (6, [.ref h1, .ref h2, .int z])), (h1, .inl (cI, 512, .inl (fun _ => (0 : Int32)))), (h2, .inl (cI, 64, .inl g))] (fun (u : va_W) => u = [(h0, .inr (6, [.ref h1, .ref h2, .int 0])), (h1, .inl (cI, 512, .inl (fun _ => (0 : Int32)))), (h2, .inl (cI, 64, .inl g))]) := by
  refine ctV.of (cc := cX6_take) (maxL := 6) (ret := none) (by decide) rfl (Nat.le_of_ble_eq_true rfl) ?_
  intro p e s m below meth c ls A hx hb hr hts hown hml hlocks hname hA hK hN hP hD hS hl
  have hl : lv_has ls 6 [(0, .ref h0), (1, .ref nn), (2, .int 0), (3, .int 0)] := hl
  have hown : s.vm.findClass RX6 = some m.cls := hown
  have hi6 : ∀ w ∈ u_ws RX6 TX6 3, w ∈ wsX6_take := by decide +kernel
  have fl9 := hts (.fieldLink RX6 9 "PlaneColumn$Tally" "nodes" "[I") (by decide +kernel)
  refine lv_aload_n hx hb dX6_take_0 rfl (lv_at hl 0 rfl) ?_
  refine va_get (ci := 6) (v := .ref h1) (C := RX6) (T := TX6) (N := 3) hx hb hts hi6 hown hK hP 0 rfl rfl 0 (by decide) fl9 (fun _ h9 => h9) rfl dX6_take_1 ?_
  refine lv_iconst (v := 0) hx hb dX6_take_4 (by decide +kernel) ?_
  refine my_goV (wr := [(h0, .inr (6, [.ref h1, .ref h2, .int z])), (h2, .inl (cI, 64, .inl g))]) hP hD hS hA [1] [0, 2] rfl rfl (by decide) (by decide) (my_cS (As := [.ref h1, .int 0]) (rest := []) (wc := [(h1, .inl (cI, 512, .inl (fun _ => (0 : Int32))))]) ⟨hx, hb, hml, hown, hts⟩ (va_cwS 2 hts gX6_take_J7_fill_53178 rfl rfl rfl (by decide +kernel) ⟨Nat.le_of_ble_eq_true rfl, Nat.le_of_ble_eq_true rfl⟩) hN hK hP hD [1] rfl (by decide) rfl rfl hl.1 rfl (Nat.le_of_ble_eq_true rfl) dX6_take_5 ⟨Nat.le_of_ble_eq_true rfl, Nat.le_of_ble_eq_true rfl⟩  ((k0_J7_fill_53178 l D cI cJ h1) _)) (fun u H locs hp hP hD hS => ?_)
  obtain rfl := hp
  have hP : va_P D vwCl [(h0, .inr (6, [.ref h1, .ref h2, .int z])), (h2, .inl (cI, 64, .inl g)), (h1, .inl (cI, 512, .inl (fun _ => (0 : Int32))))] H := hP
  have hD : va_D A [(h0, .inr (6, [.ref h1, .ref h2, .int z])), (h2, .inl (cI, 64, .inl g)), (h1, .inl (cI, 512, .inl (fun _ => (0 : Int32))))] := hD
  refine lv_iload_n hx hb dX6_take_8 rfl (lv_at hl 2 rfl) ?_
  refine lv_istore (lv' := [(4, .int 0), (0, .ref h0), (1, .ref nn), (2, .int 0), (3, .int 0)]) hx hb dX6_take_9 hl (by decide) rfl (fun ls hl => ?_)
  refine lv_iload hx hb dX6_take_11 (lv_at hl 0 rfl) ?_
  refine lv_iload_n hx hb dX6_take_13 rfl (lv_at hl 4 rfl) ?_
  refine lv_icmp_ge (tgt := 63) hx hb dX6_take_14 (by decide) (fun c14 => ?_) (fun c14 => ?_)
  ·
    refine lv_aload_n hx hb dX6_take_63 rfl (lv_at hl 1 rfl) ?_
    refine my_goV (wr := []) hP hD hS hA [0, 2, 1] [] rfl rfl (by decide) (by decide) (my_cV (As := []) (rest := []) (ci := 6) (wc := [(h0, .inr (6, [.ref h1, .ref h2, .int z])), (h1, .inl (cI, 512, .inl (fun _ => (0 : Int32)))), (h2, .inl (cI, 64, .inl g))]) ⟨hx, hb, hml, hown, hts⟩ (cwV 0 hts gX6_take_X6_sort rfl rfl rfl (by decide +kernel) ⟨Nat.le_of_ble_eq_true rfl, Nat.le_of_ble_eq_true rfl⟩) hN hK hP hD [0, 2, 1] rfl (by decide) rfl 0 rfl rfl rfl rfl hl.1 rfl (Nat.le_of_ble_eq_true rfl) dX6_take_64 ⟨Nat.le_of_ble_eq_true rfl, Nat.le_of_ble_eq_true rfl⟩  ((k0_X6_sort l D cI cJ h0 h1 h2 z g) _)) (fun u H locs hp hP hD hS => ?_)
    obtain rfl := hp
    have hP : va_P D vwCl [(h0, .inr (6, [.ref h1, .ref h2, .int 0])), (h1, .inl (cI, 512, .inl (fun _ => (0 : Int32)))), (h2, .inl (cI, 64, .inl g))] H := hP
    have hD : va_D A [(h0, .inr (6, [.ref h1, .ref h2, .int 0])), (h1, .inl (cI, 512, .inl (fun _ => (0 : Int32)))), (h2, .inl (cI, 64, .inl g))] := hD
    exact my_retV hx hb hr hlocks hK hS [(h0, .inr (6, [.ref h1, .ref h2, .int 0])), (h1, .inl (cI, 512, .inl (fun _ => (0 : Int32)))), (h2, .inl (cI, 64, .inl g))] (hP.sub [0, 1, 2] rfl) (hD.sub [0, 1, 2] (by decide) rfl) (rfl) dX6_take_67
  ·
    exact absurd c14 (by decide +kernel)
set_option maxHeartbeats 4000000 in
set_option maxRecDepth 100000 in
theorem k0_X6_nodesWith (l : Launch) (D : va_G) (cI cJ : ClassId) (h0 : Nat) (h1 : Nat) (h2 : Nat) (z : Int32) (v : Int32) (hv : 1 ≤ v.toInt) : cpI l yX6_nodesWith wsX6_nodesWith ({ frames := 0, cells := 0, slots := 0, locals := 0 } : Room) D (tyIJ cI cJ) [.ref h0, .int v] [(h0, .inr (6, [.ref h1, .ref h2, .int z])), (h1, .inl (cI, 512, .inl (fun _ => (0 : Int32))))] (fun (r : Int32) => r = 0) := by
  refine cpI.of (cc := cX6_nodesWith) (maxL := 4) (ret := (some .int)) (by decide) rfl (Nat.le_of_ble_eq_true rfl) ?_
  intro p e s m below meth c ls hx hb hr hts hown hml hlocks hname hK hN hP hl
  have hl : lv_has ls 4 [(0, .ref h0), (1, .int v)] := hl
  have hown : s.vm.findClass RX6 = some m.cls := hown
  have hi6 : ∀ w ∈ u_ws RX6 TX6 3, w ∈ wsX6_nodesWith := by decide +kernel
  have fl9 := hts (.fieldLink RX6 9 "PlaneColumn$Tally" "nodes" "[I") (by decide +kernel)
  refine lv_iconst (v := 0) hx hb dX6_nodesWith_0 (by decide +kernel) ?_
  refine lv_istore_n (lv' := [(2, .int 0), (0, .ref h0), (1, .int v)]) hx hb dX6_nodesWith_1 rfl hl (by decide) rfl (fun ls hl => ?_)
  refine lv_iconst (v := 1) hx hb dX6_nodesWith_2 (by decide +kernel) ?_
  refine lv_istore_n (lv' := [(3, .int 1), (2, .int 0), (0, .ref h0), (1, .int v)]) hx hb dX6_nodesWith_3 rfl hl (by decide) rfl (fun ls hl => ?_)
  have loop4 : ∀ (n9 : Nat) (k : Nat), 512 - k < n9 → (k ≤ 512) → ∀ (ls : Array Slot), lv_has ls 4 [(3, .int (nI k)), (2, .int 0), (1, .int v), (0, .ref h0)] → W p l e ({ frames := 0, cells := 0, slots := 0, locals := 0 } : Room) s m [.ref h0, .int v].toArray below meth c s.heap [] 0 0 (MQ below (vp_Si (fun (r : Int32) => r = 0)) [.ref h0, .int v].toArray s 0 0 (fun _ => False)) (F0 m 4 ls []) := by
    intro n9
    induction n9 with
    | zero =>
      intro k hn9
      exact absurd hn9 (Nat.not_lt_zero _)
    | succ n9 ih4 =>
      intro k hn9 hk ls hl
      refine lv_iload_n hx hb dX6_nodesWith_4 rfl (lv_at hl 0 rfl) ?_
      refine lv_aload_n hx hb dX6_nodesWith_5 rfl (lv_at hl 3 rfl) ?_
      refine va_get (ci := 6) (v := .ref h1) (C := RX6) (T := TX6) (N := 3) hx hb hts hi6 hown hK hP 0 rfl rfl 0 (by decide) fl9 (fun _ h9 => h9) rfl dX6_nodesWith_6 ?_
      refine va_alen (v := 512) hx hb hK hP 1 0 rfl rfl rfl dX6_nodesWith_9 ?_
      refine lv_icmp_ge (tgt := 32) hx hb dX6_nodesWith_10 (by decide) (fun c10 => ?_) (fun c10 => ?_)
      ·
        have d10 : ((k : Nat) : Int) ≥ (512 : Int) := my_ge c10 (nI_toInt (by omega)) (by decide +kernel)
        refine lv_iload_n hx hb dX6_nodesWith_32 rfl (lv_at hl 1 rfl) ?_
        exact my_rpI hx hb hr hlocks (rfl) dX6_nodesWith_33
      ·
        have d10 : ((k : Nat) : Int) < (512 : Int) := my_nge c10 (nI_toInt (by omega)) (by decide +kernel)
        refine lv_aload_n hx hb dX6_nodesWith_13 rfl (lv_at hl 3 rfl) ?_
        refine va_get (ci := 6) (v := .ref h1) (C := RX6) (T := TX6) (N := 3) hx hb hts hi6 hown hK hP 0 rfl rfl 0 (by decide) fl9 (fun _ h9 => h9) rfl dX6_nodesWith_14 ?_
        refine lv_iload_n hx hb dX6_nodesWith_17 rfl (lv_at hl 0 rfl) ?_
        refine va_iald hx hb hK hP 1 0 rfl rfl (vp_in_nI (by omega) (by omega)) dX6_nodesWith_18 ?_
        refine my_eqi (y := 0) rfl ?_
        refine lv_iload_n hx hb dX6_nodesWith_19 rfl (lv_at hl 2 rfl) ?_
        refine lv_icmp_lt (tgt := 26) hx hb dX6_nodesWith_20 (by decide) (fun c20 => ?_) (fun c20 => ?_)
        ·
          have d20 : (0 : Int) < v.toInt := my_lt c20 (by decide +kernel) rfl
          refine lv_iinc (v := nI (k + 1)) (lv' := [(3, .int (nI (k + 1))), (2, .int 0), (1, .int v), (0, .ref h0)]) hx hb dX6_nodesWith_26 hl (k := 0) rfl (my_incN k 1 (by decide +kernel)) (by decide) rfl (fun ls hl => ?_)
          refine lv_goto (tgt := 4) hx hb dX6_nodesWith_29 (by decide) ?_
          exact ih4  (k + 1) (by omega) (by omega) ls (lv_sub hl [0, 1, 2, 3] rfl)
        ·
          have d20 : (0 : Int) ≥ v.toInt := my_nlt c20 (by decide +kernel) rfl
          exact absurd d20 (by omega)
  exact loop4 ((512 - 1) + 1) 1 (Nat.lt_succ_self _) (by first | omega | decide +kernel) ls (lv_sub hl [0, 1, 3, 2] rfl)
set_option maxHeartbeats 4000000 in
set_option maxRecDepth 100000 in
theorem k0_X6_nodesSharedWith (l : Launch) (D : va_G) (cI cJ : ClassId) (h0 : Nat) (h1 : Nat) (h2 : Nat) (g0 : Nat) (g1 : Nat) (g2 : Nat) (z : Int32) (y : Int32) : cpI l yX6_nodesSharedWith wsX6_nodesSharedWith ({ frames := 0, cells := 0, slots := 0, locals := 0 } : Room) D (tyIJ cI cJ) [.ref h0, .ref g0] [(h0, .inr (6, [.ref h1, .ref h2, .int z])), (h1, .inl (cI, 512, .inl (fun _ => (0 : Int32)))), (g0, .inr (6, [.ref g1, .ref g2, .int y])), (g1, .inl (cI, 512, .inl (fun _ => (0 : Int32))))] (fun (r : Int32) => r = 0) := by
  refine cpI.of (cc := cX6_nodesSharedWith) (maxL := 4) (ret := (some .int)) (by decide) rfl (Nat.le_of_ble_eq_true rfl) ?_
  intro p e s m below meth c ls hx hb hr hts hown hml hlocks hname hK hN hP hl
  have hl : lv_has ls 4 [(0, .ref h0), (1, .ref g0)] := hl
  have hown : s.vm.findClass RX6 = some m.cls := hown
  have hi6 : ∀ w ∈ u_ws RX6 TX6 3, w ∈ wsX6_nodesSharedWith := by decide +kernel
  have fl9 := hts (.fieldLink RX6 9 "PlaneColumn$Tally" "nodes" "[I") (by decide +kernel)
  refine lv_iconst (v := 0) hx hb dX6_nodesSharedWith_0 (by decide +kernel) ?_
  refine lv_istore_n (lv' := [(2, .int 0), (0, .ref h0), (1, .ref g0)]) hx hb dX6_nodesSharedWith_1 rfl hl (by decide) rfl (fun ls hl => ?_)
  refine lv_iconst (v := 1) hx hb dX6_nodesSharedWith_2 (by decide +kernel) ?_
  refine lv_istore_n (lv' := [(3, .int 1), (2, .int 0), (0, .ref h0), (1, .ref g0)]) hx hb dX6_nodesSharedWith_3 rfl hl (by decide) rfl (fun ls hl => ?_)
  have loop4 : ∀ (n9 : Nat) (k : Nat), 512 - k < n9 → (k ≤ 512) → ∀ (ls : Array Slot), lv_has ls 4 [(3, .int (nI k)), (2, .int 0), (1, .ref g0), (0, .ref h0)] → W p l e ({ frames := 0, cells := 0, slots := 0, locals := 0 } : Room) s m [.ref h0, .ref g0].toArray below meth c s.heap [] 0 0 (MQ below (vp_Si (fun (r : Int32) => r = 0)) [.ref h0, .ref g0].toArray s 0 0 (fun _ => False)) (F0 m 4 ls []) := by
    intro n9
    induction n9 with
    | zero =>
      intro k hn9
      exact absurd hn9 (Nat.not_lt_zero _)
    | succ n9 ih4 =>
      intro k hn9 hk ls hl
      refine lv_iload_n hx hb dX6_nodesSharedWith_4 rfl (lv_at hl 0 rfl) ?_
      refine lv_aload_n hx hb dX6_nodesSharedWith_5 rfl (lv_at hl 3 rfl) ?_
      refine va_get (ci := 6) (v := .ref h1) (C := RX6) (T := TX6) (N := 3) hx hb hts hi6 hown hK hP 0 rfl rfl 0 (by decide) fl9 (fun _ h9 => h9) rfl dX6_nodesSharedWith_6 ?_
      refine va_alen (v := 512) hx hb hK hP 1 0 rfl rfl rfl dX6_nodesSharedWith_9 ?_
      refine lv_icmp_ge (tgt := 40) hx hb dX6_nodesSharedWith_10 (by decide) (fun c10 => ?_) (fun c10 => ?_)
      ·
        have d10 : ((k : Nat) : Int) ≥ (512 : Int) := my_ge c10 (nI_toInt (by omega)) (by decide +kernel)
        refine lv_iload_n hx hb dX6_nodesSharedWith_40 rfl (lv_at hl 1 rfl) ?_
        exact my_rpI hx hb hr hlocks (rfl) dX6_nodesSharedWith_41
      ·
        have d10 : ((k : Nat) : Int) < (512 : Int) := my_nge c10 (nI_toInt (by omega)) (by decide +kernel)
        refine lv_aload_n hx hb dX6_nodesSharedWith_13 rfl (lv_at hl 3 rfl) ?_
        refine va_get (ci := 6) (v := .ref h1) (C := RX6) (T := TX6) (N := 3) hx hb hts hi6 hown hK hP 0 rfl rfl 0 (by decide) fl9 (fun _ h9 => h9) rfl dX6_nodesSharedWith_14 ?_
        refine lv_iload_n hx hb dX6_nodesSharedWith_17 rfl (lv_at hl 0 rfl) ?_
        refine va_iald hx hb hK hP 1 0 rfl rfl (vp_in_nI (by omega) (by omega)) dX6_nodesSharedWith_18 ?_
        refine my_eqi (y := 0) rfl ?_
        refine lv_if_le (tgt := 34) hx hb dX6_nodesSharedWith_19 (by decide) (fun c19 => ?_) (fun c19 => ?_)
        ·
          refine lv_iinc (v := nI (k + 1)) (lv' := [(3, .int (nI (k + 1))), (2, .int 0), (1, .ref g0), (0, .ref h0)]) hx hb dX6_nodesSharedWith_34 hl (k := 0) rfl (my_incN k 1 (by decide +kernel)) (by decide) rfl (fun ls hl => ?_)
          refine lv_goto (tgt := 4) hx hb dX6_nodesSharedWith_37 (by decide) ?_
          exact ih4  (k + 1) (by omega) (by omega) ls (lv_sub hl [0, 1, 2, 3] rfl)
        ·
          exact absurd c19 (by decide +kernel)
  exact loop4 ((512 - 1) + 1) 1 (Nat.lt_succ_self _) (by first | omega | decide +kernel) ls (lv_sub hl [0, 1, 3, 2] rfl)
set_option maxHeartbeats 4000000 in
set_option maxRecDepth 100000 in
theorem k_X6_isWithin (l : Launch) (D : va_G) (cI cJ : ClassId) (a9 : Int32) (b9 : Int32) (c9 : Int32) (d9 : Int32) : cpI l yX6_isWithin wsX6_isWithin ({ frames := 0, cells := 0, slots := 0, locals := 0 } : Room) D (tyIJ cI cJ) [.int a9, .int b9, .int c9, .int d9] [] (fun (r : Int32) => (r = 1) ∨ (r = 0)) := by
  refine cpI.of (cc := cX6_isWithin) (maxL := 4) (ret := (some .boolean)) (by decide) rfl (Nat.le_of_ble_eq_true rfl) ?_
  intro p e s m below meth c ls hx hb hr hts hown hml hlocks hname hK hN hP hl
  have hl : lv_has ls 4 [(0, .int a9), (1, .int b9), (2, .int c9), (3, .int d9)] := hl
  have hown : s.vm.findClass RX6 = some m.cls := hown
  refine lv_iload_n hx hb dX6_isWithin_0 rfl (lv_at hl 0 rfl) ?_
  refine lv_iload_n hx hb dX6_isWithin_1 rfl (lv_at hl 1 rfl) ?_
  refine lv_ishl hx hb dX6_isWithin_2 ?_
  refine lv_topi (fun z_1 ez_1 => ?_)
  refine lv_iload_n hx hb dX6_isWithin_3 rfl (lv_at hl 2 rfl) ?_
  refine lv_icmp_lt (tgt := 22) hx hb dX6_isWithin_4 (by decide) (fun c4 => ?_) (fun c4 => ?_)
  ·
    have d4 : z_1.toInt < c9.toInt := my_lt c4 rfl rfl
    refine lv_iconst (v := 0) hx hb dX6_isWithin_22 (by decide +kernel) ?_
    exact my_rpZ hx hb hr hlocks (by decide +kernel) (Or.inr (rfl)) dX6_isWithin_23
  ·
    have d4 : z_1.toInt ≥ c9.toInt := my_nlt c4 rfl rfl
    refine lv_iload_n hx hb dX6_isWithin_7 rfl (lv_at hl 0 rfl) ?_
    refine lv_iconst (v := 1) hx hb dX6_isWithin_8 (by decide +kernel) ?_
    refine lv_iadd hx hb dX6_isWithin_9 ?_
    refine lv_topi (fun z_2 ez_2 => ?_)
    refine lv_iload_n hx hb dX6_isWithin_10 rfl (lv_at hl 1 rfl) ?_
    refine lv_ishl hx hb dX6_isWithin_11 ?_
    refine lv_topi (fun z_3 ez_3 => ?_)
    refine lv_iconst (v := 1) hx hb dX6_isWithin_12 (by decide +kernel) ?_
    refine lv_isub hx hb dX6_isWithin_13 ?_
    refine lv_topi (fun z_4 ez_4 => ?_)
    refine lv_iload_n hx hb dX6_isWithin_14 rfl (lv_at hl 3 rfl) ?_
    refine lv_icmp_gt (tgt := 22) hx hb dX6_isWithin_15 (by decide) (fun c15 => ?_) (fun c15 => ?_)
    ·
      have d15 : z_4.toInt > d9.toInt := my_gt c15 rfl rfl
      refine lv_iconst (v := 0) hx hb dX6_isWithin_22 (by decide +kernel) ?_
      exact my_rpZ hx hb hr hlocks (by decide +kernel) (Or.inr (rfl)) dX6_isWithin_23
    ·
      have d15 : z_4.toInt ≤ d9.toInt := my_ngt c15 rfl rfl
      refine lv_iconst (v := 1) hx hb dX6_isWithin_18 (by decide +kernel) ?_
      refine lv_goto (tgt := 23) hx hb dX6_isWithin_19 (by decide) ?_
      exact my_rpZ hx hb hr hlocks (by decide +kernel) (Or.inl rfl) dX6_isWithin_23
set_option maxHeartbeats 4000000 in
set_option maxRecDepth 100000 in
theorem k0_X6_visitsOfBand (l : Launch) (D : va_G) (cI cJ : ClassId) (h0 : Nat) (h1 : Nat) (h2 : Nat) (z : Int32) (a9 : Int32) (b9 : Int32) (ha : 0 ≤ a9.toInt) (hab : a9.toInt ≤ b9.toInt) (hb9 : b9.toInt ≤ 255) : cpI l yX6_visitsOfBand wsX6_visitsOfBand ({ frames := 1, cells := 0, slots := 0, locals := 60 } : Room) D (tyIJ cI cJ) [.ref h0, .int a9, .int b9] [(h0, .inr (6, [.ref h1, .ref h2, .int z])), (h1, .inl (cI, 512, .inl (fun _ => (0 : Int32))))] (fun (r : Int32) => r = 0) := by
  refine cpI.of (cc := cX6_visitsOfBand) (maxL := 8) (ret := (some .int)) (by decide) rfl (Nat.le_of_ble_eq_true rfl) ?_
  intro p e s m below meth c ls hx hb hr hts hown hml hlocks hname hK hN hP hl
  have hl : lv_has ls 8 [(0, .ref h0), (1, .int a9), (2, .int b9)] := hl
  have hown : s.vm.findClass RX6 = some m.cls := hown
  refine lv_iconst (v := 0) hx hb dX6_visitsOfBand_0 (by decide +kernel) ?_
  refine lv_istore_n (lv' := [(3, .int 0), (0, .ref h0), (1, .int a9), (2, .int b9)]) hx hb dX6_visitsOfBand_1 rfl hl (by decide) rfl (fun ls hl => ?_)
  refine lv_iconst (v := 0) hx hb dX6_visitsOfBand_2 (by decide +kernel) ?_
  refine lv_istore (lv' := [(4, .int 0), (3, .int 0), (0, .ref h0), (1, .int a9), (2, .int b9)]) hx hb dX6_visitsOfBand_3 hl (by decide) rfl (fun ls hl => ?_)
  refine lv_iload hx hb dX6_visitsOfBand_5 (lv_at hl 0 rfl) ?_
  refine lv_bipush (v := 8) hx hb dX6_visitsOfBand_7 (by decide +kernel) ?_
  refine lv_icmp_gt (tgt := 93) hx hb dX6_visitsOfBand_9 (by decide) (fun c9 => ?_) (fun c9 => ?_)
  ·
    exact absurd c9 (by decide +kernel)
  ·
    refine lv_bipush (v := 8) hx hb dX6_visitsOfBand_12 (by decide +kernel) ?_
    refine lv_iload hx hb dX6_visitsOfBand_14 (lv_at hl 0 rfl) ?_
    refine lv_isub hx hb dX6_visitsOfBand_16 ?_
    refine my_eqi (y := 8) (by decide +kernel) ?_
    refine lv_istore (lv' := [(5, .int 8), (4, .int 0), (3, .int 0), (0, .ref h0), (1, .int a9), (2, .int b9)]) hx hb dX6_visitsOfBand_17 hl (by decide) rfl (fun ls hl => ?_)
    refine lv_iload_n hx hb dX6_visitsOfBand_19 rfl (lv_at hl 4 rfl) ?_
    refine lv_iload hx hb dX6_visitsOfBand_20 (lv_at hl 0 rfl) ?_
    refine lv_ishr hx hb dX6_visitsOfBand_22 ?_
    refine lv_topi (fun z_1 ez_1 => ?_)
    have tz_1 : z_1.toInt = a9.toInt / 256 := by rw [ez_1]; exact my_shrI 8 rfl (by omega) (by omega) (by omega)
    refine lv_istore (lv' := [(6, .int z_1), (5, .int 8), (4, .int 0), (3, .int 0), (0, .ref h0), (1, .int a9), (2, .int b9)]) hx hb dX6_visitsOfBand_23 hl (by decide) rfl (fun ls hl => ?_)
    have loop25 : ∀ (n9 : Nat) (x : Int32), (256 - x.toInt).toNat < n9 → (0 ≤ x.toInt) → (x.toInt ≤ 256) → ∀ (ls : Array Slot), lv_has ls 8 [(6, .int x), (5, .int 8), (4, .int 0), (3, .int 0), (2, .int b9), (1, .int a9), (0, .ref h0)] → W p l e ({ frames := 1, cells := 0, slots := 0, locals := 60 } : Room) s m [.ref h0, .int a9, .int b9].toArray below meth c s.heap [] 0 0 (MQ below (vp_Si (fun (r : Int32) => r = 0)) [.ref h0, .int a9, .int b9].toArray s 0 0 (fun _ => False)) (F0 m 25 ls []) := by
      intro n9
      induction n9 with
      | zero =>
        intro x hn9
        exact absurd hn9 (Nat.not_lt_zero _)
      | succ n9 ih25 =>
        intro x hn9 hx0 hx1 ls hl
        refine lv_iload hx hb dX6_visitsOfBand_25 (lv_at hl 0 rfl) ?_
        refine lv_iload_n hx hb dX6_visitsOfBand_27 rfl (lv_at hl 4 rfl) ?_
        refine lv_iload hx hb dX6_visitsOfBand_28 (lv_at hl 1 rfl) ?_
        refine lv_ishr hx hb dX6_visitsOfBand_30 ?_
        refine lv_topi (fun z_2 ez_2 => ?_)
        have tz_2 : z_2.toInt = b9.toInt / 256 := by rw [ez_2]; exact my_shrI 8 rfl (by omega) (by omega) (by omega)
        refine lv_icmp_gt (tgt := 87) hx hb dX6_visitsOfBand_31 (by decide) (fun c31 => ?_) (fun c31 => ?_)
        ·
          have d31 : x.toInt > z_2.toInt := my_gt c31 rfl rfl
          refine lv_iinc (v := 1) (lv' := [(4, .int 1), (6, .int x), (5, .int 8), (3, .int 0), (2, .int b9), (1, .int a9), (0, .ref h0)]) hx hb dX6_visitsOfBand_87 hl (k := 2) rfl (by decide +kernel) (by decide) rfl (fun ls hl => ?_)
          refine lv_goto (tgt := 5) hx hb dX6_visitsOfBand_90 (by decide) ?_
          refine lv_iload hx hb dX6_visitsOfBand_5 (lv_at hl 0 rfl) ?_
          refine lv_bipush (v := 8) hx hb dX6_visitsOfBand_7 (by decide +kernel) ?_
          refine lv_icmp_gt (tgt := 93) hx hb dX6_visitsOfBand_9 (by decide) (fun c9 => ?_) (fun c9 => ?_)
          ·
            exact absurd c9 (by decide +kernel)
          ·
            refine lv_bipush (v := 8) hx hb dX6_visitsOfBand_12 (by decide +kernel) ?_
            refine lv_iload hx hb dX6_visitsOfBand_14 (lv_at hl 0 rfl) ?_
            refine lv_isub hx hb dX6_visitsOfBand_16 ?_
            refine my_eqi (y := 7) (by decide +kernel) ?_
            refine lv_istore (lv' := [(5, .int 7), (4, .int 1), (6, .int x), (3, .int 0), (2, .int b9), (1, .int a9), (0, .ref h0)]) hx hb dX6_visitsOfBand_17 hl (by decide) rfl (fun ls hl => ?_)
            refine lv_iload_n hx hb dX6_visitsOfBand_19 rfl (lv_at hl 5 rfl) ?_
            refine lv_iload hx hb dX6_visitsOfBand_20 (lv_at hl 0 rfl) ?_
            refine lv_ishr hx hb dX6_visitsOfBand_22 ?_
            refine lv_topi (fun z_3 ez_3 => ?_)
            have tz_3 : z_3.toInt = a9.toInt / 128 := by rw [ez_3]; exact my_shrI 7 rfl (by omega) (by omega) (by omega)
            refine lv_istore (lv' := [(6, .int z_3), (5, .int 7), (4, .int 1), (3, .int 0), (2, .int b9), (1, .int a9), (0, .ref h0)]) hx hb dX6_visitsOfBand_23 hl (by decide) rfl (fun ls hl => ?_)
            have loop25 : ∀ (n9 : Nat) (x : Int32), (256 - x.toInt).toNat < n9 → (0 ≤ x.toInt) → (x.toInt ≤ 256) → ∀ (ls : Array Slot), lv_has ls 8 [(6, .int x), (5, .int 7), (4, .int 1), (3, .int 0), (2, .int b9), (1, .int a9), (0, .ref h0)] → W p l e ({ frames := 1, cells := 0, slots := 0, locals := 60 } : Room) s m [.ref h0, .int a9, .int b9].toArray below meth c s.heap [] 0 0 (MQ below (vp_Si (fun (r : Int32) => r = 0)) [.ref h0, .int a9, .int b9].toArray s 0 0 (fun _ => False)) (F0 m 25 ls []) := by
              intro n9
              induction n9 with
              | zero =>
                intro x hn9
                exact absurd hn9 (Nat.not_lt_zero _)
              | succ n9 ih25 =>
                intro x hn9 hx0 hx1 ls hl
                refine lv_iload hx hb dX6_visitsOfBand_25 (lv_at hl 0 rfl) ?_
                refine lv_iload_n hx hb dX6_visitsOfBand_27 rfl (lv_at hl 4 rfl) ?_
                refine lv_iload hx hb dX6_visitsOfBand_28 (lv_at hl 1 rfl) ?_
                refine lv_ishr hx hb dX6_visitsOfBand_30 ?_
                refine lv_topi (fun z_4 ez_4 => ?_)
                have tz_4 : z_4.toInt = b9.toInt / 128 := by rw [ez_4]; exact my_shrI 7 rfl (by omega) (by omega) (by omega)
                refine lv_icmp_gt (tgt := 87) hx hb dX6_visitsOfBand_31 (by decide) (fun c31 => ?_) (fun c31 => ?_)
                ·
                  have d31 : x.toInt > z_4.toInt := my_gt c31 rfl rfl
                  refine lv_iinc (v := 2) (lv' := [(4, .int 2), (6, .int x), (5, .int 7), (3, .int 0), (2, .int b9), (1, .int a9), (0, .ref h0)]) hx hb dX6_visitsOfBand_87 hl (k := 2) rfl (by decide +kernel) (by decide) rfl (fun ls hl => ?_)
                  refine lv_goto (tgt := 5) hx hb dX6_visitsOfBand_90 (by decide) ?_
                  refine lv_iload hx hb dX6_visitsOfBand_5 (lv_at hl 0 rfl) ?_
                  refine lv_bipush (v := 8) hx hb dX6_visitsOfBand_7 (by decide +kernel) ?_
                  refine lv_icmp_gt (tgt := 93) hx hb dX6_visitsOfBand_9 (by decide) (fun c9 => ?_) (fun c9 => ?_)
                  ·
                    exact absurd c9 (by decide +kernel)
                  ·
                    refine lv_bipush (v := 8) hx hb dX6_visitsOfBand_12 (by decide +kernel) ?_
                    refine lv_iload hx hb dX6_visitsOfBand_14 (lv_at hl 0 rfl) ?_
                    refine lv_isub hx hb dX6_visitsOfBand_16 ?_
                    refine my_eqi (y := 6) (by decide +kernel) ?_
                    refine lv_istore (lv' := [(5, .int 6), (4, .int 2), (6, .int x), (3, .int 0), (2, .int b9), (1, .int a9), (0, .ref h0)]) hx hb dX6_visitsOfBand_17 hl (by decide) rfl (fun ls hl => ?_)
                    refine lv_iload_n hx hb dX6_visitsOfBand_19 rfl (lv_at hl 5 rfl) ?_
                    refine lv_iload hx hb dX6_visitsOfBand_20 (lv_at hl 0 rfl) ?_
                    refine lv_ishr hx hb dX6_visitsOfBand_22 ?_
                    refine lv_topi (fun z_5 ez_5 => ?_)
                    have tz_5 : z_5.toInt = a9.toInt / 64 := by rw [ez_5]; exact my_shrI 6 rfl (by omega) (by omega) (by omega)
                    refine lv_istore (lv' := [(6, .int z_5), (5, .int 6), (4, .int 2), (3, .int 0), (2, .int b9), (1, .int a9), (0, .ref h0)]) hx hb dX6_visitsOfBand_23 hl (by decide) rfl (fun ls hl => ?_)
                    have loop25 : ∀ (n9 : Nat) (x : Int32), (256 - x.toInt).toNat < n9 → (0 ≤ x.toInt) → (x.toInt ≤ 256) → ∀ (ls : Array Slot), lv_has ls 8 [(6, .int x), (5, .int 6), (4, .int 2), (3, .int 0), (2, .int b9), (1, .int a9), (0, .ref h0)] → W p l e ({ frames := 1, cells := 0, slots := 0, locals := 60 } : Room) s m [.ref h0, .int a9, .int b9].toArray below meth c s.heap [] 0 0 (MQ below (vp_Si (fun (r : Int32) => r = 0)) [.ref h0, .int a9, .int b9].toArray s 0 0 (fun _ => False)) (F0 m 25 ls []) := by
                      intro n9
                      induction n9 with
                      | zero =>
                        intro x hn9
                        exact absurd hn9 (Nat.not_lt_zero _)
                      | succ n9 ih25 =>
                        intro x hn9 hx0 hx1 ls hl
                        refine lv_iload hx hb dX6_visitsOfBand_25 (lv_at hl 0 rfl) ?_
                        refine lv_iload_n hx hb dX6_visitsOfBand_27 rfl (lv_at hl 4 rfl) ?_
                        refine lv_iload hx hb dX6_visitsOfBand_28 (lv_at hl 1 rfl) ?_
                        refine lv_ishr hx hb dX6_visitsOfBand_30 ?_
                        refine lv_topi (fun z_6 ez_6 => ?_)
                        have tz_6 : z_6.toInt = b9.toInt / 64 := by rw [ez_6]; exact my_shrI 6 rfl (by omega) (by omega) (by omega)
                        refine lv_icmp_gt (tgt := 87) hx hb dX6_visitsOfBand_31 (by decide) (fun c31 => ?_) (fun c31 => ?_)
                        ·
                          have d31 : x.toInt > z_6.toInt := my_gt c31 rfl rfl
                          refine lv_iinc (v := 3) (lv' := [(4, .int 3), (6, .int x), (5, .int 6), (3, .int 0), (2, .int b9), (1, .int a9), (0, .ref h0)]) hx hb dX6_visitsOfBand_87 hl (k := 2) rfl (by decide +kernel) (by decide) rfl (fun ls hl => ?_)
                          refine lv_goto (tgt := 5) hx hb dX6_visitsOfBand_90 (by decide) ?_
                          refine lv_iload hx hb dX6_visitsOfBand_5 (lv_at hl 0 rfl) ?_
                          refine lv_bipush (v := 8) hx hb dX6_visitsOfBand_7 (by decide +kernel) ?_
                          refine lv_icmp_gt (tgt := 93) hx hb dX6_visitsOfBand_9 (by decide) (fun c9 => ?_) (fun c9 => ?_)
                          ·
                            exact absurd c9 (by decide +kernel)
                          ·
                            refine lv_bipush (v := 8) hx hb dX6_visitsOfBand_12 (by decide +kernel) ?_
                            refine lv_iload hx hb dX6_visitsOfBand_14 (lv_at hl 0 rfl) ?_
                            refine lv_isub hx hb dX6_visitsOfBand_16 ?_
                            refine my_eqi (y := 5) (by decide +kernel) ?_
                            refine lv_istore (lv' := [(5, .int 5), (4, .int 3), (6, .int x), (3, .int 0), (2, .int b9), (1, .int a9), (0, .ref h0)]) hx hb dX6_visitsOfBand_17 hl (by decide) rfl (fun ls hl => ?_)
                            refine lv_iload_n hx hb dX6_visitsOfBand_19 rfl (lv_at hl 5 rfl) ?_
                            refine lv_iload hx hb dX6_visitsOfBand_20 (lv_at hl 0 rfl) ?_
                            refine lv_ishr hx hb dX6_visitsOfBand_22 ?_
                            refine lv_topi (fun z_7 ez_7 => ?_)
                            have tz_7 : z_7.toInt = a9.toInt / 32 := by rw [ez_7]; exact my_shrI 5 rfl (by omega) (by omega) (by omega)
                            refine lv_istore (lv' := [(6, .int z_7), (5, .int 5), (4, .int 3), (3, .int 0), (2, .int b9), (1, .int a9), (0, .ref h0)]) hx hb dX6_visitsOfBand_23 hl (by decide) rfl (fun ls hl => ?_)
                            have loop25 : ∀ (n9 : Nat) (x : Int32), (256 - x.toInt).toNat < n9 → (0 ≤ x.toInt) → (x.toInt ≤ 256) → ∀ (ls : Array Slot), lv_has ls 8 [(6, .int x), (5, .int 5), (4, .int 3), (3, .int 0), (2, .int b9), (1, .int a9), (0, .ref h0)] → W p l e ({ frames := 1, cells := 0, slots := 0, locals := 60 } : Room) s m [.ref h0, .int a9, .int b9].toArray below meth c s.heap [] 0 0 (MQ below (vp_Si (fun (r : Int32) => r = 0)) [.ref h0, .int a9, .int b9].toArray s 0 0 (fun _ => False)) (F0 m 25 ls []) := by
                              intro n9
                              induction n9 with
                              | zero =>
                                intro x hn9
                                exact absurd hn9 (Nat.not_lt_zero _)
                              | succ n9 ih25 =>
                                intro x hn9 hx0 hx1 ls hl
                                refine lv_iload hx hb dX6_visitsOfBand_25 (lv_at hl 0 rfl) ?_
                                refine lv_iload_n hx hb dX6_visitsOfBand_27 rfl (lv_at hl 4 rfl) ?_
                                refine lv_iload hx hb dX6_visitsOfBand_28 (lv_at hl 1 rfl) ?_
                                refine lv_ishr hx hb dX6_visitsOfBand_30 ?_
                                refine lv_topi (fun z_8 ez_8 => ?_)
                                have tz_8 : z_8.toInt = b9.toInt / 32 := by rw [ez_8]; exact my_shrI 5 rfl (by omega) (by omega) (by omega)
                                refine lv_icmp_gt (tgt := 87) hx hb dX6_visitsOfBand_31 (by decide) (fun c31 => ?_) (fun c31 => ?_)
                                ·
                                  have d31 : x.toInt > z_8.toInt := my_gt c31 rfl rfl
                                  refine lv_iinc (v := 4) (lv' := [(4, .int 4), (6, .int x), (5, .int 5), (3, .int 0), (2, .int b9), (1, .int a9), (0, .ref h0)]) hx hb dX6_visitsOfBand_87 hl (k := 2) rfl (by decide +kernel) (by decide) rfl (fun ls hl => ?_)
                                  refine lv_goto (tgt := 5) hx hb dX6_visitsOfBand_90 (by decide) ?_
                                  refine lv_iload hx hb dX6_visitsOfBand_5 (lv_at hl 0 rfl) ?_
                                  refine lv_bipush (v := 8) hx hb dX6_visitsOfBand_7 (by decide +kernel) ?_
                                  refine lv_icmp_gt (tgt := 93) hx hb dX6_visitsOfBand_9 (by decide) (fun c9 => ?_) (fun c9 => ?_)
                                  ·
                                    exact absurd c9 (by decide +kernel)
                                  ·
                                    refine lv_bipush (v := 8) hx hb dX6_visitsOfBand_12 (by decide +kernel) ?_
                                    refine lv_iload hx hb dX6_visitsOfBand_14 (lv_at hl 0 rfl) ?_
                                    refine lv_isub hx hb dX6_visitsOfBand_16 ?_
                                    refine my_eqi (y := 4) (by decide +kernel) ?_
                                    refine lv_istore (lv' := [(5, .int 4), (4, .int 4), (6, .int x), (3, .int 0), (2, .int b9), (1, .int a9), (0, .ref h0)]) hx hb dX6_visitsOfBand_17 hl (by decide) rfl (fun ls hl => ?_)
                                    refine lv_iload_n hx hb dX6_visitsOfBand_19 rfl (lv_at hl 5 rfl) ?_
                                    refine lv_iload hx hb dX6_visitsOfBand_20 (lv_at hl 0 rfl) ?_
                                    refine lv_ishr hx hb dX6_visitsOfBand_22 ?_
                                    refine lv_topi (fun z_9 ez_9 => ?_)
                                    have tz_9 : z_9.toInt = a9.toInt / 16 := by rw [ez_9]; exact my_shrI 4 rfl (by omega) (by omega) (by omega)
                                    refine lv_istore (lv' := [(6, .int z_9), (5, .int 4), (4, .int 4), (3, .int 0), (2, .int b9), (1, .int a9), (0, .ref h0)]) hx hb dX6_visitsOfBand_23 hl (by decide) rfl (fun ls hl => ?_)
                                    have loop25 : ∀ (n9 : Nat) (x : Int32), (256 - x.toInt).toNat < n9 → (0 ≤ x.toInt) → (x.toInt ≤ 256) → ∀ (ls : Array Slot), lv_has ls 8 [(6, .int x), (5, .int 4), (4, .int 4), (3, .int 0), (2, .int b9), (1, .int a9), (0, .ref h0)] → W p l e ({ frames := 1, cells := 0, slots := 0, locals := 60 } : Room) s m [.ref h0, .int a9, .int b9].toArray below meth c s.heap [] 0 0 (MQ below (vp_Si (fun (r : Int32) => r = 0)) [.ref h0, .int a9, .int b9].toArray s 0 0 (fun _ => False)) (F0 m 25 ls []) := by
                                      intro n9
                                      induction n9 with
                                      | zero =>
                                        intro x hn9
                                        exact absurd hn9 (Nat.not_lt_zero _)
                                      | succ n9 ih25 =>
                                        intro x hn9 hx0 hx1 ls hl
                                        refine lv_iload hx hb dX6_visitsOfBand_25 (lv_at hl 0 rfl) ?_
                                        refine lv_iload_n hx hb dX6_visitsOfBand_27 rfl (lv_at hl 4 rfl) ?_
                                        refine lv_iload hx hb dX6_visitsOfBand_28 (lv_at hl 1 rfl) ?_
                                        refine lv_ishr hx hb dX6_visitsOfBand_30 ?_
                                        refine lv_topi (fun z_10 ez_10 => ?_)
                                        have tz_10 : z_10.toInt = b9.toInt / 16 := by rw [ez_10]; exact my_shrI 4 rfl (by omega) (by omega) (by omega)
                                        refine lv_icmp_gt (tgt := 87) hx hb dX6_visitsOfBand_31 (by decide) (fun c31 => ?_) (fun c31 => ?_)
                                        ·
                                          have d31 : x.toInt > z_10.toInt := my_gt c31 rfl rfl
                                          refine lv_iinc (v := 5) (lv' := [(4, .int 5), (6, .int x), (5, .int 4), (3, .int 0), (2, .int b9), (1, .int a9), (0, .ref h0)]) hx hb dX6_visitsOfBand_87 hl (k := 2) rfl (by decide +kernel) (by decide) rfl (fun ls hl => ?_)
                                          refine lv_goto (tgt := 5) hx hb dX6_visitsOfBand_90 (by decide) ?_
                                          refine lv_iload hx hb dX6_visitsOfBand_5 (lv_at hl 0 rfl) ?_
                                          refine lv_bipush (v := 8) hx hb dX6_visitsOfBand_7 (by decide +kernel) ?_
                                          refine lv_icmp_gt (tgt := 93) hx hb dX6_visitsOfBand_9 (by decide) (fun c9 => ?_) (fun c9 => ?_)
                                          ·
                                            exact absurd c9 (by decide +kernel)
                                          ·
                                            refine lv_bipush (v := 8) hx hb dX6_visitsOfBand_12 (by decide +kernel) ?_
                                            refine lv_iload hx hb dX6_visitsOfBand_14 (lv_at hl 0 rfl) ?_
                                            refine lv_isub hx hb dX6_visitsOfBand_16 ?_
                                            refine my_eqi (y := 3) (by decide +kernel) ?_
                                            refine lv_istore (lv' := [(5, .int 3), (4, .int 5), (6, .int x), (3, .int 0), (2, .int b9), (1, .int a9), (0, .ref h0)]) hx hb dX6_visitsOfBand_17 hl (by decide) rfl (fun ls hl => ?_)
                                            refine lv_iload_n hx hb dX6_visitsOfBand_19 rfl (lv_at hl 5 rfl) ?_
                                            refine lv_iload hx hb dX6_visitsOfBand_20 (lv_at hl 0 rfl) ?_
                                            refine lv_ishr hx hb dX6_visitsOfBand_22 ?_
                                            refine lv_topi (fun z_11 ez_11 => ?_)
                                            have tz_11 : z_11.toInt = a9.toInt / 8 := by rw [ez_11]; exact my_shrI 3 rfl (by omega) (by omega) (by omega)
                                            refine lv_istore (lv' := [(6, .int z_11), (5, .int 3), (4, .int 5), (3, .int 0), (2, .int b9), (1, .int a9), (0, .ref h0)]) hx hb dX6_visitsOfBand_23 hl (by decide) rfl (fun ls hl => ?_)
                                            have loop25 : ∀ (n9 : Nat) (x : Int32), (256 - x.toInt).toNat < n9 → (0 ≤ x.toInt) → (x.toInt ≤ 256) → ∀ (ls : Array Slot), lv_has ls 8 [(6, .int x), (5, .int 3), (4, .int 5), (3, .int 0), (2, .int b9), (1, .int a9), (0, .ref h0)] → W p l e ({ frames := 1, cells := 0, slots := 0, locals := 60 } : Room) s m [.ref h0, .int a9, .int b9].toArray below meth c s.heap [] 0 0 (MQ below (vp_Si (fun (r : Int32) => r = 0)) [.ref h0, .int a9, .int b9].toArray s 0 0 (fun _ => False)) (F0 m 25 ls []) := by
                                              intro n9
                                              induction n9 with
                                              | zero =>
                                                intro x hn9
                                                exact absurd hn9 (Nat.not_lt_zero _)
                                              | succ n9 ih25 =>
                                                intro x hn9 hx0 hx1 ls hl
                                                refine lv_iload hx hb dX6_visitsOfBand_25 (lv_at hl 0 rfl) ?_
                                                refine lv_iload_n hx hb dX6_visitsOfBand_27 rfl (lv_at hl 4 rfl) ?_
                                                refine lv_iload hx hb dX6_visitsOfBand_28 (lv_at hl 1 rfl) ?_
                                                refine lv_ishr hx hb dX6_visitsOfBand_30 ?_
                                                refine lv_topi (fun z_12 ez_12 => ?_)
                                                have tz_12 : z_12.toInt = b9.toInt / 8 := by rw [ez_12]; exact my_shrI 3 rfl (by omega) (by omega) (by omega)
                                                refine lv_icmp_gt (tgt := 87) hx hb dX6_visitsOfBand_31 (by decide) (fun c31 => ?_) (fun c31 => ?_)
                                                ·
                                                  have d31 : x.toInt > z_12.toInt := my_gt c31 rfl rfl
                                                  refine lv_iinc (v := 6) (lv' := [(4, .int 6), (6, .int x), (5, .int 3), (3, .int 0), (2, .int b9), (1, .int a9), (0, .ref h0)]) hx hb dX6_visitsOfBand_87 hl (k := 2) rfl (by decide +kernel) (by decide) rfl (fun ls hl => ?_)
                                                  refine lv_goto (tgt := 5) hx hb dX6_visitsOfBand_90 (by decide) ?_
                                                  refine lv_iload hx hb dX6_visitsOfBand_5 (lv_at hl 0 rfl) ?_
                                                  refine lv_bipush (v := 8) hx hb dX6_visitsOfBand_7 (by decide +kernel) ?_
                                                  refine lv_icmp_gt (tgt := 93) hx hb dX6_visitsOfBand_9 (by decide) (fun c9 => ?_) (fun c9 => ?_)
                                                  ·
                                                    exact absurd c9 (by decide +kernel)
                                                  ·
                                                    refine lv_bipush (v := 8) hx hb dX6_visitsOfBand_12 (by decide +kernel) ?_
                                                    refine lv_iload hx hb dX6_visitsOfBand_14 (lv_at hl 0 rfl) ?_
                                                    refine lv_isub hx hb dX6_visitsOfBand_16 ?_
                                                    refine my_eqi (y := 2) (by decide +kernel) ?_
                                                    refine lv_istore (lv' := [(5, .int 2), (4, .int 6), (6, .int x), (3, .int 0), (2, .int b9), (1, .int a9), (0, .ref h0)]) hx hb dX6_visitsOfBand_17 hl (by decide) rfl (fun ls hl => ?_)
                                                    refine lv_iload_n hx hb dX6_visitsOfBand_19 rfl (lv_at hl 5 rfl) ?_
                                                    refine lv_iload hx hb dX6_visitsOfBand_20 (lv_at hl 0 rfl) ?_
                                                    refine lv_ishr hx hb dX6_visitsOfBand_22 ?_
                                                    refine lv_topi (fun z_13 ez_13 => ?_)
                                                    have tz_13 : z_13.toInt = a9.toInt / 4 := by rw [ez_13]; exact my_shrI 2 rfl (by omega) (by omega) (by omega)
                                                    refine lv_istore (lv' := [(6, .int z_13), (5, .int 2), (4, .int 6), (3, .int 0), (2, .int b9), (1, .int a9), (0, .ref h0)]) hx hb dX6_visitsOfBand_23 hl (by decide) rfl (fun ls hl => ?_)
                                                    have loop25 : ∀ (n9 : Nat) (x : Int32), (256 - x.toInt).toNat < n9 → (0 ≤ x.toInt) → (x.toInt ≤ 256) → ∀ (ls : Array Slot), lv_has ls 8 [(6, .int x), (5, .int 2), (4, .int 6), (3, .int 0), (2, .int b9), (1, .int a9), (0, .ref h0)] → W p l e ({ frames := 1, cells := 0, slots := 0, locals := 60 } : Room) s m [.ref h0, .int a9, .int b9].toArray below meth c s.heap [] 0 0 (MQ below (vp_Si (fun (r : Int32) => r = 0)) [.ref h0, .int a9, .int b9].toArray s 0 0 (fun _ => False)) (F0 m 25 ls []) := by
                                                      intro n9
                                                      induction n9 with
                                                      | zero =>
                                                        intro x hn9
                                                        exact absurd hn9 (Nat.not_lt_zero _)
                                                      | succ n9 ih25 =>
                                                        intro x hn9 hx0 hx1 ls hl
                                                        refine lv_iload hx hb dX6_visitsOfBand_25 (lv_at hl 0 rfl) ?_
                                                        refine lv_iload_n hx hb dX6_visitsOfBand_27 rfl (lv_at hl 4 rfl) ?_
                                                        refine lv_iload hx hb dX6_visitsOfBand_28 (lv_at hl 1 rfl) ?_
                                                        refine lv_ishr hx hb dX6_visitsOfBand_30 ?_
                                                        refine lv_topi (fun z_14 ez_14 => ?_)
                                                        have tz_14 : z_14.toInt = b9.toInt / 4 := by rw [ez_14]; exact my_shrI 2 rfl (by omega) (by omega) (by omega)
                                                        refine lv_icmp_gt (tgt := 87) hx hb dX6_visitsOfBand_31 (by decide) (fun c31 => ?_) (fun c31 => ?_)
                                                        ·
                                                          have d31 : x.toInt > z_14.toInt := my_gt c31 rfl rfl
                                                          refine lv_iinc (v := 7) (lv' := [(4, .int 7), (6, .int x), (5, .int 2), (3, .int 0), (2, .int b9), (1, .int a9), (0, .ref h0)]) hx hb dX6_visitsOfBand_87 hl (k := 2) rfl (by decide +kernel) (by decide) rfl (fun ls hl => ?_)
                                                          refine lv_goto (tgt := 5) hx hb dX6_visitsOfBand_90 (by decide) ?_
                                                          refine lv_iload hx hb dX6_visitsOfBand_5 (lv_at hl 0 rfl) ?_
                                                          refine lv_bipush (v := 8) hx hb dX6_visitsOfBand_7 (by decide +kernel) ?_
                                                          refine lv_icmp_gt (tgt := 93) hx hb dX6_visitsOfBand_9 (by decide) (fun c9 => ?_) (fun c9 => ?_)
                                                          ·
                                                            exact absurd c9 (by decide +kernel)
                                                          ·
                                                            refine lv_bipush (v := 8) hx hb dX6_visitsOfBand_12 (by decide +kernel) ?_
                                                            refine lv_iload hx hb dX6_visitsOfBand_14 (lv_at hl 0 rfl) ?_
                                                            refine lv_isub hx hb dX6_visitsOfBand_16 ?_
                                                            refine my_eqi (y := 1) (by decide +kernel) ?_
                                                            refine lv_istore (lv' := [(5, .int 1), (4, .int 7), (6, .int x), (3, .int 0), (2, .int b9), (1, .int a9), (0, .ref h0)]) hx hb dX6_visitsOfBand_17 hl (by decide) rfl (fun ls hl => ?_)
                                                            refine lv_iload_n hx hb dX6_visitsOfBand_19 rfl (lv_at hl 5 rfl) ?_
                                                            refine lv_iload hx hb dX6_visitsOfBand_20 (lv_at hl 0 rfl) ?_
                                                            refine lv_ishr hx hb dX6_visitsOfBand_22 ?_
                                                            refine lv_topi (fun z_15 ez_15 => ?_)
                                                            have tz_15 : z_15.toInt = a9.toInt / 2 := by rw [ez_15]; exact my_shrI 1 rfl (by omega) (by omega) (by omega)
                                                            refine lv_istore (lv' := [(6, .int z_15), (5, .int 1), (4, .int 7), (3, .int 0), (2, .int b9), (1, .int a9), (0, .ref h0)]) hx hb dX6_visitsOfBand_23 hl (by decide) rfl (fun ls hl => ?_)
                                                            have loop25 : ∀ (n9 : Nat) (x : Int32), (256 - x.toInt).toNat < n9 → (0 ≤ x.toInt) → (x.toInt ≤ 256) → ∀ (ls : Array Slot), lv_has ls 8 [(6, .int x), (5, .int 1), (4, .int 7), (3, .int 0), (2, .int b9), (1, .int a9), (0, .ref h0)] → W p l e ({ frames := 1, cells := 0, slots := 0, locals := 60 } : Room) s m [.ref h0, .int a9, .int b9].toArray below meth c s.heap [] 0 0 (MQ below (vp_Si (fun (r : Int32) => r = 0)) [.ref h0, .int a9, .int b9].toArray s 0 0 (fun _ => False)) (F0 m 25 ls []) := by
                                                              intro n9
                                                              induction n9 with
                                                              | zero =>
                                                                intro x hn9
                                                                exact absurd hn9 (Nat.not_lt_zero _)
                                                              | succ n9 ih25 =>
                                                                intro x hn9 hx0 hx1 ls hl
                                                                refine lv_iload hx hb dX6_visitsOfBand_25 (lv_at hl 0 rfl) ?_
                                                                refine lv_iload_n hx hb dX6_visitsOfBand_27 rfl (lv_at hl 4 rfl) ?_
                                                                refine lv_iload hx hb dX6_visitsOfBand_28 (lv_at hl 1 rfl) ?_
                                                                refine lv_ishr hx hb dX6_visitsOfBand_30 ?_
                                                                refine lv_topi (fun z_16 ez_16 => ?_)
                                                                have tz_16 : z_16.toInt = b9.toInt / 2 := by rw [ez_16]; exact my_shrI 1 rfl (by omega) (by omega) (by omega)
                                                                refine lv_icmp_gt (tgt := 87) hx hb dX6_visitsOfBand_31 (by decide) (fun c31 => ?_) (fun c31 => ?_)
                                                                ·
                                                                  have d31 : x.toInt > z_16.toInt := my_gt c31 rfl rfl
                                                                  refine lv_iinc (v := 8) (lv' := [(4, .int 8), (6, .int x), (5, .int 1), (3, .int 0), (2, .int b9), (1, .int a9), (0, .ref h0)]) hx hb dX6_visitsOfBand_87 hl (k := 2) rfl (by decide +kernel) (by decide) rfl (fun ls hl => ?_)
                                                                  refine lv_goto (tgt := 5) hx hb dX6_visitsOfBand_90 (by decide) ?_
                                                                  refine lv_iload hx hb dX6_visitsOfBand_5 (lv_at hl 0 rfl) ?_
                                                                  refine lv_bipush (v := 8) hx hb dX6_visitsOfBand_7 (by decide +kernel) ?_
                                                                  refine lv_icmp_gt (tgt := 93) hx hb dX6_visitsOfBand_9 (by decide) (fun c9 => ?_) (fun c9 => ?_)
                                                                  ·
                                                                    exact absurd c9 (by decide +kernel)
                                                                  ·
                                                                    refine lv_bipush (v := 8) hx hb dX6_visitsOfBand_12 (by decide +kernel) ?_
                                                                    refine lv_iload hx hb dX6_visitsOfBand_14 (lv_at hl 0 rfl) ?_
                                                                    refine lv_isub hx hb dX6_visitsOfBand_16 ?_
                                                                    refine my_eqi (y := 0) (by decide +kernel) ?_
                                                                    refine lv_istore (lv' := [(5, .int 0), (4, .int 8), (6, .int x), (3, .int 0), (2, .int b9), (1, .int a9), (0, .ref h0)]) hx hb dX6_visitsOfBand_17 hl (by decide) rfl (fun ls hl => ?_)
                                                                    refine lv_iload_n hx hb dX6_visitsOfBand_19 rfl (lv_at hl 5 rfl) ?_
                                                                    refine lv_iload hx hb dX6_visitsOfBand_20 (lv_at hl 0 rfl) ?_
                                                                    refine lv_ishr hx hb dX6_visitsOfBand_22 ?_
                                                                    refine lv_topi (fun z_17 ez_17 => ?_)
                                                                    have tz_17 : z_17.toInt = a9.toInt / 1 := by rw [ez_17]; exact my_shrI 0 rfl (by omega) (by omega) (by omega)
                                                                    refine lv_istore (lv' := [(6, .int z_17), (5, .int 0), (4, .int 8), (3, .int 0), (2, .int b9), (1, .int a9), (0, .ref h0)]) hx hb dX6_visitsOfBand_23 hl (by decide) rfl (fun ls hl => ?_)
                                                                    have loop25 : ∀ (n9 : Nat) (x : Int32), (256 - x.toInt).toNat < n9 → (0 ≤ x.toInt) → (x.toInt ≤ 256) → ∀ (ls : Array Slot), lv_has ls 8 [(6, .int x), (5, .int 0), (4, .int 8), (3, .int 0), (2, .int b9), (1, .int a9), (0, .ref h0)] → W p l e ({ frames := 1, cells := 0, slots := 0, locals := 60 } : Room) s m [.ref h0, .int a9, .int b9].toArray below meth c s.heap [] 0 0 (MQ below (vp_Si (fun (r : Int32) => r = 0)) [.ref h0, .int a9, .int b9].toArray s 0 0 (fun _ => False)) (F0 m 25 ls []) := by
                                                                      intro n9
                                                                      induction n9 with
                                                                      | zero =>
                                                                        intro x hn9
                                                                        exact absurd hn9 (Nat.not_lt_zero _)
                                                                      | succ n9 ih25 =>
                                                                        intro x hn9 hx0 hx1 ls hl
                                                                        refine lv_iload hx hb dX6_visitsOfBand_25 (lv_at hl 0 rfl) ?_
                                                                        refine lv_iload_n hx hb dX6_visitsOfBand_27 rfl (lv_at hl 4 rfl) ?_
                                                                        refine lv_iload hx hb dX6_visitsOfBand_28 (lv_at hl 1 rfl) ?_
                                                                        refine lv_ishr hx hb dX6_visitsOfBand_30 ?_
                                                                        refine lv_topi (fun z_18 ez_18 => ?_)
                                                                        have tz_18 : z_18.toInt = b9.toInt / 1 := by rw [ez_18]; exact my_shrI 0 rfl (by omega) (by omega) (by omega)
                                                                        refine lv_icmp_gt (tgt := 87) hx hb dX6_visitsOfBand_31 (by decide) (fun c31 => ?_) (fun c31 => ?_)
                                                                        ·
                                                                          have d31 : x.toInt > z_18.toInt := my_gt c31 rfl rfl
                                                                          refine lv_iinc (v := 9) (lv' := [(4, .int 9), (6, .int x), (5, .int 0), (3, .int 0), (2, .int b9), (1, .int a9), (0, .ref h0)]) hx hb dX6_visitsOfBand_87 hl (k := 2) rfl (by decide +kernel) (by decide) rfl (fun ls hl => ?_)
                                                                          refine lv_goto (tgt := 5) hx hb dX6_visitsOfBand_90 (by decide) ?_
                                                                          refine lv_iload hx hb dX6_visitsOfBand_5 (lv_at hl 0 rfl) ?_
                                                                          refine lv_bipush (v := 8) hx hb dX6_visitsOfBand_7 (by decide +kernel) ?_
                                                                          refine lv_icmp_gt (tgt := 93) hx hb dX6_visitsOfBand_9 (by decide) (fun c9 => ?_) (fun c9 => ?_)
                                                                          ·
                                                                            refine lv_iload_n hx hb dX6_visitsOfBand_93 rfl (lv_at hl 3 rfl) ?_
                                                                            exact my_rpI hx hb hr hlocks (rfl) dX6_visitsOfBand_94
                                                                          ·
                                                                            exact absurd c9 (by decide +kernel)
                                                                        ·
                                                                          have d31 : x.toInt ≤ z_18.toInt := my_ngt c31 rfl rfl
                                                                          refine lv_iload hx hb dX6_visitsOfBand_34 (lv_at hl 2 rfl) ?_
                                                                          refine lv_if_eq (tgt := 55) hx hb dX6_visitsOfBand_36 (by decide) (fun c36 => ?_) (fun c36 => ?_)
                                                                          ·
                                                                            exact absurd c36 (by decide +kernel)
                                                                          ·
                                                                            refine lv_iload hx hb dX6_visitsOfBand_39 (lv_at hl 0 rfl) ?_
                                                                            refine lv_iconst (v := 1) hx hb dX6_visitsOfBand_41 (by decide +kernel) ?_
                                                                            refine lv_ishr hx hb dX6_visitsOfBand_42 ?_
                                                                            refine lv_topi (fun z_19 ez_19 => ?_)
                                                                            have tz_19 : z_19.toInt = x.toInt / 2 := by rw [ez_19]; exact my_shrI 1 rfl (by omega) (by omega) (by omega)
                                                                            refine lv_iload hx hb dX6_visitsOfBand_43 (lv_at hl 1 rfl) ?_
                                                                            refine lv_iconst (v := 1) hx hb dX6_visitsOfBand_45 (by decide +kernel) ?_
                                                                            refine lv_iadd hx hb dX6_visitsOfBand_46 ?_
                                                                            refine my_eqi (y := 1) (by decide +kernel) ?_
                                                                            refine lv_iload_n hx hb dX6_visitsOfBand_47 rfl (lv_at hl 5 rfl) ?_
                                                                            refine lv_iload_n hx hb dX6_visitsOfBand_48 rfl (lv_at hl 4 rfl) ?_
                                                                            refine my_gpI (my_pS (As := [.int z_19, .int 1, .int a9, .int b9]) (rest := []) ⟨hx, hb, hml, hown, hts⟩ (va_cwS 4 hts gX6_visitsOfBand_X6_isWithin rfl rfl rfl (by decide +kernel) ⟨Nat.le_of_ble_eq_true rfl, Nat.le_of_ble_eq_true rfl⟩) hN hK hP [] rfl rfl hl.1 rfl (Nat.le_of_ble_eq_true rfl) dX6_visitsOfBand_49 ⟨Nat.le_of_ble_eq_true rfl, Nat.le_of_ble_eq_true rfl⟩  (k_X6_isWithin l D cI cJ z_19 (1 : Int32) a9 b9)) (fun r hp => ?_)
                                                                            rcases hp with rfl | rfl
                                                                            ·
                                                                              refine lv_if_ne (tgt := 59) hx hb dX6_visitsOfBand_52 (by decide) (fun c52 => ?_) (fun c52 => ?_)
                                                                              ·
                                                                                refine lv_iconst (v := 0) hx hb dX6_visitsOfBand_59 (by decide +kernel) ?_
                                                                                refine lv_istore (lv' := [(7, .int 0), (6, .int x), (5, .int 0), (4, .int 8), (3, .int 0), (2, .int b9), (1, .int a9), (0, .ref h0)]) hx hb dX6_visitsOfBand_60 hl (by decide) rfl (fun ls hl => ?_)
                                                                                refine lv_iload hx hb dX6_visitsOfBand_62 (lv_at hl 0 rfl) ?_
                                                                                refine lv_if_eq (tgt := 81) hx hb dX6_visitsOfBand_64 (by decide) (fun c64 => ?_) (fun c64 => ?_)
                                                                                ·
                                                                                  obtain ⟨z_20, ez_20⟩ : ∃ y : Int32, y = x + (1) := ⟨_, rfl⟩
                                                                                  have tz_20 : z_20.toInt = x.toInt + (1) := by rw [ez_20]; exact my_addI rfl (by decide +kernel) (by omega) (by omega)
                                                                                  refine lv_iinc (v := z_20) (lv' := [(6, .int z_20), (7, .int 0), (5, .int 0), (4, .int 8), (3, .int 0), (2, .int b9), (1, .int a9), (0, .ref h0)]) hx hb dX6_visitsOfBand_81 hl (k := 1) rfl (by rw [ez_20]; rfl) (by decide) rfl (fun ls hl => ?_)
                                                                                  refine lv_goto (tgt := 25) hx hb dX6_visitsOfBand_84 (by decide) ?_
                                                                                  exact ih25  z_20 (by omega) (by omega) (by omega) ls (lv_sub hl [0, 2, 3, 4, 5, 6, 7] rfl)
                                                                                ·
                                                                                  exact absurd c64 (by decide +kernel)
                                                                              ·
                                                                                exact absurd c52 (by decide +kernel)
                                                                            ·
                                                                              refine lv_if_ne (tgt := 59) hx hb dX6_visitsOfBand_52 (by decide) (fun c52 => ?_) (fun c52 => ?_)
                                                                              ·
                                                                                exact absurd c52 (by decide +kernel)
                                                                              ·
                                                                                refine lv_iconst (v := 1) hx hb dX6_visitsOfBand_55 (by decide +kernel) ?_
                                                                                refine lv_goto (tgt := 60) hx hb dX6_visitsOfBand_56 (by decide) ?_
                                                                                refine lv_istore (lv' := [(7, .int 1), (6, .int x), (5, .int 0), (4, .int 8), (3, .int 0), (2, .int b9), (1, .int a9), (0, .ref h0)]) hx hb dX6_visitsOfBand_60 hl (by decide) rfl (fun ls hl => ?_)
                                                                                refine lv_iload hx hb dX6_visitsOfBand_62 (lv_at hl 0 rfl) ?_
                                                                                refine lv_if_eq (tgt := 81) hx hb dX6_visitsOfBand_64 (by decide) (fun c64 => ?_) (fun c64 => ?_)
                                                                                ·
                                                                                  exact absurd c64 (by decide +kernel)
                                                                                ·
                                                                                  refine lv_aload_n hx hb dX6_visitsOfBand_67 rfl (lv_at hl 7 rfl) ?_
                                                                                  refine lv_iload hx hb dX6_visitsOfBand_68 (lv_at hl 3 rfl) ?_
                                                                                  refine lv_iload hx hb dX6_visitsOfBand_70 (lv_at hl 1 rfl) ?_
                                                                                  refine my_gpI (my_pV (As := [.int 8, .int x]) (rest := []) (ci := 6) ⟨hx, hb, hml, hown, hts⟩ (cwV 2 hts gX6_visitsOfBand_X6_inNode rfl rfl rfl (by decide +kernel) ⟨Nat.le_of_ble_eq_true rfl, Nat.le_of_ble_eq_true rfl⟩) hN hK hP [0, 1] rfl 0 rfl rfl rfl rfl hl.1 rfl (Nat.le_of_ble_eq_true rfl) dX6_visitsOfBand_72 ⟨Nat.le_of_ble_eq_true rfl, Nat.le_of_ble_eq_true rfl⟩  (k0_X6_inNode_8 l D cI cJ h0 h1 h2 z x)) (fun r hp => ?_)
                                                                                  obtain rfl := hp
                                                                                  refine lv_if_le (tgt := 81) hx hb dX6_visitsOfBand_75 (by decide) (fun c75 => ?_) (fun c75 => ?_)
                                                                                  ·
                                                                                    obtain ⟨z_21, ez_21⟩ : ∃ y : Int32, y = x + (1) := ⟨_, rfl⟩
                                                                                    have tz_21 : z_21.toInt = x.toInt + (1) := by rw [ez_21]; exact my_addI rfl (by decide +kernel) (by omega) (by omega)
                                                                                    refine lv_iinc (v := z_21) (lv' := [(6, .int z_21), (7, .int 1), (5, .int 0), (4, .int 8), (3, .int 0), (2, .int b9), (1, .int a9), (0, .ref h0)]) hx hb dX6_visitsOfBand_81 hl (k := 1) rfl (by rw [ez_21]; rfl) (by decide) rfl (fun ls hl => ?_)
                                                                                    refine lv_goto (tgt := 25) hx hb dX6_visitsOfBand_84 (by decide) ?_
                                                                                    exact ih25  z_21 (by omega) (by omega) (by omega) ls (lv_sub hl [0, 2, 3, 4, 5, 6, 7] rfl)
                                                                                  ·
                                                                                    exact absurd c75 (by decide +kernel)
                                                                    exact loop25 (((256 - z_17.toInt).toNat) + 1) z_17 (Nat.lt_succ_self _) (by first | omega | decide +kernel) (by first | omega | decide +kernel) ls (lv_sub hl [0, 1, 2, 3, 4, 5, 6] rfl)
                                                                ·
                                                                  have d31 : x.toInt ≤ z_16.toInt := my_ngt c31 rfl rfl
                                                                  refine lv_iload hx hb dX6_visitsOfBand_34 (lv_at hl 2 rfl) ?_
                                                                  refine lv_if_eq (tgt := 55) hx hb dX6_visitsOfBand_36 (by decide) (fun c36 => ?_) (fun c36 => ?_)
                                                                  ·
                                                                    exact absurd c36 (by decide +kernel)
                                                                  ·
                                                                    refine lv_iload hx hb dX6_visitsOfBand_39 (lv_at hl 0 rfl) ?_
                                                                    refine lv_iconst (v := 1) hx hb dX6_visitsOfBand_41 (by decide +kernel) ?_
                                                                    refine lv_ishr hx hb dX6_visitsOfBand_42 ?_
                                                                    refine lv_topi (fun z_22 ez_22 => ?_)
                                                                    have tz_22 : z_22.toInt = x.toInt / 2 := by rw [ez_22]; exact my_shrI 1 rfl (by omega) (by omega) (by omega)
                                                                    refine lv_iload hx hb dX6_visitsOfBand_43 (lv_at hl 1 rfl) ?_
                                                                    refine lv_iconst (v := 1) hx hb dX6_visitsOfBand_45 (by decide +kernel) ?_
                                                                    refine lv_iadd hx hb dX6_visitsOfBand_46 ?_
                                                                    refine my_eqi (y := 2) (by decide +kernel) ?_
                                                                    refine lv_iload_n hx hb dX6_visitsOfBand_47 rfl (lv_at hl 5 rfl) ?_
                                                                    refine lv_iload_n hx hb dX6_visitsOfBand_48 rfl (lv_at hl 4 rfl) ?_
                                                                    refine my_gpI (my_pS (As := [.int z_22, .int 2, .int a9, .int b9]) (rest := []) ⟨hx, hb, hml, hown, hts⟩ (va_cwS 4 hts gX6_visitsOfBand_X6_isWithin rfl rfl rfl (by decide +kernel) ⟨Nat.le_of_ble_eq_true rfl, Nat.le_of_ble_eq_true rfl⟩) hN hK hP [] rfl rfl hl.1 rfl (Nat.le_of_ble_eq_true rfl) dX6_visitsOfBand_49 ⟨Nat.le_of_ble_eq_true rfl, Nat.le_of_ble_eq_true rfl⟩  (k_X6_isWithin l D cI cJ z_22 (2 : Int32) a9 b9)) (fun r hp => ?_)
                                                                    rcases hp with rfl | rfl
                                                                    ·
                                                                      refine lv_if_ne (tgt := 59) hx hb dX6_visitsOfBand_52 (by decide) (fun c52 => ?_) (fun c52 => ?_)
                                                                      ·
                                                                        refine lv_iconst (v := 0) hx hb dX6_visitsOfBand_59 (by decide +kernel) ?_
                                                                        refine lv_istore (lv' := [(7, .int 0), (6, .int x), (5, .int 1), (4, .int 7), (3, .int 0), (2, .int b9), (1, .int a9), (0, .ref h0)]) hx hb dX6_visitsOfBand_60 hl (by decide) rfl (fun ls hl => ?_)
                                                                        refine lv_iload hx hb dX6_visitsOfBand_62 (lv_at hl 0 rfl) ?_
                                                                        refine lv_if_eq (tgt := 81) hx hb dX6_visitsOfBand_64 (by decide) (fun c64 => ?_) (fun c64 => ?_)
                                                                        ·
                                                                          obtain ⟨z_23, ez_23⟩ : ∃ y : Int32, y = x + (1) := ⟨_, rfl⟩
                                                                          have tz_23 : z_23.toInt = x.toInt + (1) := by rw [ez_23]; exact my_addI rfl (by decide +kernel) (by omega) (by omega)
                                                                          refine lv_iinc (v := z_23) (lv' := [(6, .int z_23), (7, .int 0), (5, .int 1), (4, .int 7), (3, .int 0), (2, .int b9), (1, .int a9), (0, .ref h0)]) hx hb dX6_visitsOfBand_81 hl (k := 1) rfl (by rw [ez_23]; rfl) (by decide) rfl (fun ls hl => ?_)
                                                                          refine lv_goto (tgt := 25) hx hb dX6_visitsOfBand_84 (by decide) ?_
                                                                          exact ih25  z_23 (by omega) (by omega) (by omega) ls (lv_sub hl [0, 2, 3, 4, 5, 6, 7] rfl)
                                                                        ·
                                                                          exact absurd c64 (by decide +kernel)
                                                                      ·
                                                                        exact absurd c52 (by decide +kernel)
                                                                    ·
                                                                      refine lv_if_ne (tgt := 59) hx hb dX6_visitsOfBand_52 (by decide) (fun c52 => ?_) (fun c52 => ?_)
                                                                      ·
                                                                        exact absurd c52 (by decide +kernel)
                                                                      ·
                                                                        refine lv_iconst (v := 1) hx hb dX6_visitsOfBand_55 (by decide +kernel) ?_
                                                                        refine lv_goto (tgt := 60) hx hb dX6_visitsOfBand_56 (by decide) ?_
                                                                        refine lv_istore (lv' := [(7, .int 1), (6, .int x), (5, .int 1), (4, .int 7), (3, .int 0), (2, .int b9), (1, .int a9), (0, .ref h0)]) hx hb dX6_visitsOfBand_60 hl (by decide) rfl (fun ls hl => ?_)
                                                                        refine lv_iload hx hb dX6_visitsOfBand_62 (lv_at hl 0 rfl) ?_
                                                                        refine lv_if_eq (tgt := 81) hx hb dX6_visitsOfBand_64 (by decide) (fun c64 => ?_) (fun c64 => ?_)
                                                                        ·
                                                                          exact absurd c64 (by decide +kernel)
                                                                        ·
                                                                          refine lv_aload_n hx hb dX6_visitsOfBand_67 rfl (lv_at hl 7 rfl) ?_
                                                                          refine lv_iload hx hb dX6_visitsOfBand_68 (lv_at hl 3 rfl) ?_
                                                                          refine lv_iload hx hb dX6_visitsOfBand_70 (lv_at hl 1 rfl) ?_
                                                                          refine my_gpI (my_pV (As := [.int 7, .int x]) (rest := []) (ci := 6) ⟨hx, hb, hml, hown, hts⟩ (cwV 2 hts gX6_visitsOfBand_X6_inNode rfl rfl rfl (by decide +kernel) ⟨Nat.le_of_ble_eq_true rfl, Nat.le_of_ble_eq_true rfl⟩) hN hK hP [0, 1] rfl 0 rfl rfl rfl rfl hl.1 rfl (Nat.le_of_ble_eq_true rfl) dX6_visitsOfBand_72 ⟨Nat.le_of_ble_eq_true rfl, Nat.le_of_ble_eq_true rfl⟩  (k0_X6_inNode_7 l D cI cJ h0 h1 h2 z x)) (fun r hp => ?_)
                                                                          obtain rfl := hp
                                                                          refine lv_if_le (tgt := 81) hx hb dX6_visitsOfBand_75 (by decide) (fun c75 => ?_) (fun c75 => ?_)
                                                                          ·
                                                                            obtain ⟨z_24, ez_24⟩ : ∃ y : Int32, y = x + (1) := ⟨_, rfl⟩
                                                                            have tz_24 : z_24.toInt = x.toInt + (1) := by rw [ez_24]; exact my_addI rfl (by decide +kernel) (by omega) (by omega)
                                                                            refine lv_iinc (v := z_24) (lv' := [(6, .int z_24), (7, .int 1), (5, .int 1), (4, .int 7), (3, .int 0), (2, .int b9), (1, .int a9), (0, .ref h0)]) hx hb dX6_visitsOfBand_81 hl (k := 1) rfl (by rw [ez_24]; rfl) (by decide) rfl (fun ls hl => ?_)
                                                                            refine lv_goto (tgt := 25) hx hb dX6_visitsOfBand_84 (by decide) ?_
                                                                            exact ih25  z_24 (by omega) (by omega) (by omega) ls (lv_sub hl [0, 2, 3, 4, 5, 6, 7] rfl)
                                                                          ·
                                                                            exact absurd c75 (by decide +kernel)
                                                            exact loop25 (((256 - z_15.toInt).toNat) + 1) z_15 (Nat.lt_succ_self _) (by first | omega | decide +kernel) (by first | omega | decide +kernel) ls (lv_sub hl [0, 1, 2, 3, 4, 5, 6] rfl)
                                                        ·
                                                          have d31 : x.toInt ≤ z_14.toInt := my_ngt c31 rfl rfl
                                                          refine lv_iload hx hb dX6_visitsOfBand_34 (lv_at hl 2 rfl) ?_
                                                          refine lv_if_eq (tgt := 55) hx hb dX6_visitsOfBand_36 (by decide) (fun c36 => ?_) (fun c36 => ?_)
                                                          ·
                                                            exact absurd c36 (by decide +kernel)
                                                          ·
                                                            refine lv_iload hx hb dX6_visitsOfBand_39 (lv_at hl 0 rfl) ?_
                                                            refine lv_iconst (v := 1) hx hb dX6_visitsOfBand_41 (by decide +kernel) ?_
                                                            refine lv_ishr hx hb dX6_visitsOfBand_42 ?_
                                                            refine lv_topi (fun z_25 ez_25 => ?_)
                                                            have tz_25 : z_25.toInt = x.toInt / 2 := by rw [ez_25]; exact my_shrI 1 rfl (by omega) (by omega) (by omega)
                                                            refine lv_iload hx hb dX6_visitsOfBand_43 (lv_at hl 1 rfl) ?_
                                                            refine lv_iconst (v := 1) hx hb dX6_visitsOfBand_45 (by decide +kernel) ?_
                                                            refine lv_iadd hx hb dX6_visitsOfBand_46 ?_
                                                            refine my_eqi (y := 3) (by decide +kernel) ?_
                                                            refine lv_iload_n hx hb dX6_visitsOfBand_47 rfl (lv_at hl 5 rfl) ?_
                                                            refine lv_iload_n hx hb dX6_visitsOfBand_48 rfl (lv_at hl 4 rfl) ?_
                                                            refine my_gpI (my_pS (As := [.int z_25, .int 3, .int a9, .int b9]) (rest := []) ⟨hx, hb, hml, hown, hts⟩ (va_cwS 4 hts gX6_visitsOfBand_X6_isWithin rfl rfl rfl (by decide +kernel) ⟨Nat.le_of_ble_eq_true rfl, Nat.le_of_ble_eq_true rfl⟩) hN hK hP [] rfl rfl hl.1 rfl (Nat.le_of_ble_eq_true rfl) dX6_visitsOfBand_49 ⟨Nat.le_of_ble_eq_true rfl, Nat.le_of_ble_eq_true rfl⟩  (k_X6_isWithin l D cI cJ z_25 (3 : Int32) a9 b9)) (fun r hp => ?_)
                                                            rcases hp with rfl | rfl
                                                            ·
                                                              refine lv_if_ne (tgt := 59) hx hb dX6_visitsOfBand_52 (by decide) (fun c52 => ?_) (fun c52 => ?_)
                                                              ·
                                                                refine lv_iconst (v := 0) hx hb dX6_visitsOfBand_59 (by decide +kernel) ?_
                                                                refine lv_istore (lv' := [(7, .int 0), (6, .int x), (5, .int 2), (4, .int 6), (3, .int 0), (2, .int b9), (1, .int a9), (0, .ref h0)]) hx hb dX6_visitsOfBand_60 hl (by decide) rfl (fun ls hl => ?_)
                                                                refine lv_iload hx hb dX6_visitsOfBand_62 (lv_at hl 0 rfl) ?_
                                                                refine lv_if_eq (tgt := 81) hx hb dX6_visitsOfBand_64 (by decide) (fun c64 => ?_) (fun c64 => ?_)
                                                                ·
                                                                  obtain ⟨z_26, ez_26⟩ : ∃ y : Int32, y = x + (1) := ⟨_, rfl⟩
                                                                  have tz_26 : z_26.toInt = x.toInt + (1) := by rw [ez_26]; exact my_addI rfl (by decide +kernel) (by omega) (by omega)
                                                                  refine lv_iinc (v := z_26) (lv' := [(6, .int z_26), (7, .int 0), (5, .int 2), (4, .int 6), (3, .int 0), (2, .int b9), (1, .int a9), (0, .ref h0)]) hx hb dX6_visitsOfBand_81 hl (k := 1) rfl (by rw [ez_26]; rfl) (by decide) rfl (fun ls hl => ?_)
                                                                  refine lv_goto (tgt := 25) hx hb dX6_visitsOfBand_84 (by decide) ?_
                                                                  exact ih25  z_26 (by omega) (by omega) (by omega) ls (lv_sub hl [0, 2, 3, 4, 5, 6, 7] rfl)
                                                                ·
                                                                  exact absurd c64 (by decide +kernel)
                                                              ·
                                                                exact absurd c52 (by decide +kernel)
                                                            ·
                                                              refine lv_if_ne (tgt := 59) hx hb dX6_visitsOfBand_52 (by decide) (fun c52 => ?_) (fun c52 => ?_)
                                                              ·
                                                                exact absurd c52 (by decide +kernel)
                                                              ·
                                                                refine lv_iconst (v := 1) hx hb dX6_visitsOfBand_55 (by decide +kernel) ?_
                                                                refine lv_goto (tgt := 60) hx hb dX6_visitsOfBand_56 (by decide) ?_
                                                                refine lv_istore (lv' := [(7, .int 1), (6, .int x), (5, .int 2), (4, .int 6), (3, .int 0), (2, .int b9), (1, .int a9), (0, .ref h0)]) hx hb dX6_visitsOfBand_60 hl (by decide) rfl (fun ls hl => ?_)
                                                                refine lv_iload hx hb dX6_visitsOfBand_62 (lv_at hl 0 rfl) ?_
                                                                refine lv_if_eq (tgt := 81) hx hb dX6_visitsOfBand_64 (by decide) (fun c64 => ?_) (fun c64 => ?_)
                                                                ·
                                                                  exact absurd c64 (by decide +kernel)
                                                                ·
                                                                  refine lv_aload_n hx hb dX6_visitsOfBand_67 rfl (lv_at hl 7 rfl) ?_
                                                                  refine lv_iload hx hb dX6_visitsOfBand_68 (lv_at hl 3 rfl) ?_
                                                                  refine lv_iload hx hb dX6_visitsOfBand_70 (lv_at hl 1 rfl) ?_
                                                                  refine my_gpI (my_pV (As := [.int 6, .int x]) (rest := []) (ci := 6) ⟨hx, hb, hml, hown, hts⟩ (cwV 2 hts gX6_visitsOfBand_X6_inNode rfl rfl rfl (by decide +kernel) ⟨Nat.le_of_ble_eq_true rfl, Nat.le_of_ble_eq_true rfl⟩) hN hK hP [0, 1] rfl 0 rfl rfl rfl rfl hl.1 rfl (Nat.le_of_ble_eq_true rfl) dX6_visitsOfBand_72 ⟨Nat.le_of_ble_eq_true rfl, Nat.le_of_ble_eq_true rfl⟩  (k0_X6_inNode_6 l D cI cJ h0 h1 h2 z x)) (fun r hp => ?_)
                                                                  obtain rfl := hp
                                                                  refine lv_if_le (tgt := 81) hx hb dX6_visitsOfBand_75 (by decide) (fun c75 => ?_) (fun c75 => ?_)
                                                                  ·
                                                                    obtain ⟨z_27, ez_27⟩ : ∃ y : Int32, y = x + (1) := ⟨_, rfl⟩
                                                                    have tz_27 : z_27.toInt = x.toInt + (1) := by rw [ez_27]; exact my_addI rfl (by decide +kernel) (by omega) (by omega)
                                                                    refine lv_iinc (v := z_27) (lv' := [(6, .int z_27), (7, .int 1), (5, .int 2), (4, .int 6), (3, .int 0), (2, .int b9), (1, .int a9), (0, .ref h0)]) hx hb dX6_visitsOfBand_81 hl (k := 1) rfl (by rw [ez_27]; rfl) (by decide) rfl (fun ls hl => ?_)
                                                                    refine lv_goto (tgt := 25) hx hb dX6_visitsOfBand_84 (by decide) ?_
                                                                    exact ih25  z_27 (by omega) (by omega) (by omega) ls (lv_sub hl [0, 2, 3, 4, 5, 6, 7] rfl)
                                                                  ·
                                                                    exact absurd c75 (by decide +kernel)
                                                    exact loop25 (((256 - z_13.toInt).toNat) + 1) z_13 (Nat.lt_succ_self _) (by first | omega | decide +kernel) (by first | omega | decide +kernel) ls (lv_sub hl [0, 1, 2, 3, 4, 5, 6] rfl)
                                                ·
                                                  have d31 : x.toInt ≤ z_12.toInt := my_ngt c31 rfl rfl
                                                  refine lv_iload hx hb dX6_visitsOfBand_34 (lv_at hl 2 rfl) ?_
                                                  refine lv_if_eq (tgt := 55) hx hb dX6_visitsOfBand_36 (by decide) (fun c36 => ?_) (fun c36 => ?_)
                                                  ·
                                                    exact absurd c36 (by decide +kernel)
                                                  ·
                                                    refine lv_iload hx hb dX6_visitsOfBand_39 (lv_at hl 0 rfl) ?_
                                                    refine lv_iconst (v := 1) hx hb dX6_visitsOfBand_41 (by decide +kernel) ?_
                                                    refine lv_ishr hx hb dX6_visitsOfBand_42 ?_
                                                    refine lv_topi (fun z_28 ez_28 => ?_)
                                                    have tz_28 : z_28.toInt = x.toInt / 2 := by rw [ez_28]; exact my_shrI 1 rfl (by omega) (by omega) (by omega)
                                                    refine lv_iload hx hb dX6_visitsOfBand_43 (lv_at hl 1 rfl) ?_
                                                    refine lv_iconst (v := 1) hx hb dX6_visitsOfBand_45 (by decide +kernel) ?_
                                                    refine lv_iadd hx hb dX6_visitsOfBand_46 ?_
                                                    refine my_eqi (y := 4) (by decide +kernel) ?_
                                                    refine lv_iload_n hx hb dX6_visitsOfBand_47 rfl (lv_at hl 5 rfl) ?_
                                                    refine lv_iload_n hx hb dX6_visitsOfBand_48 rfl (lv_at hl 4 rfl) ?_
                                                    refine my_gpI (my_pS (As := [.int z_28, .int 4, .int a9, .int b9]) (rest := []) ⟨hx, hb, hml, hown, hts⟩ (va_cwS 4 hts gX6_visitsOfBand_X6_isWithin rfl rfl rfl (by decide +kernel) ⟨Nat.le_of_ble_eq_true rfl, Nat.le_of_ble_eq_true rfl⟩) hN hK hP [] rfl rfl hl.1 rfl (Nat.le_of_ble_eq_true rfl) dX6_visitsOfBand_49 ⟨Nat.le_of_ble_eq_true rfl, Nat.le_of_ble_eq_true rfl⟩  (k_X6_isWithin l D cI cJ z_28 (4 : Int32) a9 b9)) (fun r hp => ?_)
                                                    rcases hp with rfl | rfl
                                                    ·
                                                      refine lv_if_ne (tgt := 59) hx hb dX6_visitsOfBand_52 (by decide) (fun c52 => ?_) (fun c52 => ?_)
                                                      ·
                                                        refine lv_iconst (v := 0) hx hb dX6_visitsOfBand_59 (by decide +kernel) ?_
                                                        refine lv_istore (lv' := [(7, .int 0), (6, .int x), (5, .int 3), (4, .int 5), (3, .int 0), (2, .int b9), (1, .int a9), (0, .ref h0)]) hx hb dX6_visitsOfBand_60 hl (by decide) rfl (fun ls hl => ?_)
                                                        refine lv_iload hx hb dX6_visitsOfBand_62 (lv_at hl 0 rfl) ?_
                                                        refine lv_if_eq (tgt := 81) hx hb dX6_visitsOfBand_64 (by decide) (fun c64 => ?_) (fun c64 => ?_)
                                                        ·
                                                          obtain ⟨z_29, ez_29⟩ : ∃ y : Int32, y = x + (1) := ⟨_, rfl⟩
                                                          have tz_29 : z_29.toInt = x.toInt + (1) := by rw [ez_29]; exact my_addI rfl (by decide +kernel) (by omega) (by omega)
                                                          refine lv_iinc (v := z_29) (lv' := [(6, .int z_29), (7, .int 0), (5, .int 3), (4, .int 5), (3, .int 0), (2, .int b9), (1, .int a9), (0, .ref h0)]) hx hb dX6_visitsOfBand_81 hl (k := 1) rfl (by rw [ez_29]; rfl) (by decide) rfl (fun ls hl => ?_)
                                                          refine lv_goto (tgt := 25) hx hb dX6_visitsOfBand_84 (by decide) ?_
                                                          exact ih25  z_29 (by omega) (by omega) (by omega) ls (lv_sub hl [0, 2, 3, 4, 5, 6, 7] rfl)
                                                        ·
                                                          exact absurd c64 (by decide +kernel)
                                                      ·
                                                        exact absurd c52 (by decide +kernel)
                                                    ·
                                                      refine lv_if_ne (tgt := 59) hx hb dX6_visitsOfBand_52 (by decide) (fun c52 => ?_) (fun c52 => ?_)
                                                      ·
                                                        exact absurd c52 (by decide +kernel)
                                                      ·
                                                        refine lv_iconst (v := 1) hx hb dX6_visitsOfBand_55 (by decide +kernel) ?_
                                                        refine lv_goto (tgt := 60) hx hb dX6_visitsOfBand_56 (by decide) ?_
                                                        refine lv_istore (lv' := [(7, .int 1), (6, .int x), (5, .int 3), (4, .int 5), (3, .int 0), (2, .int b9), (1, .int a9), (0, .ref h0)]) hx hb dX6_visitsOfBand_60 hl (by decide) rfl (fun ls hl => ?_)
                                                        refine lv_iload hx hb dX6_visitsOfBand_62 (lv_at hl 0 rfl) ?_
                                                        refine lv_if_eq (tgt := 81) hx hb dX6_visitsOfBand_64 (by decide) (fun c64 => ?_) (fun c64 => ?_)
                                                        ·
                                                          exact absurd c64 (by decide +kernel)
                                                        ·
                                                          refine lv_aload_n hx hb dX6_visitsOfBand_67 rfl (lv_at hl 7 rfl) ?_
                                                          refine lv_iload hx hb dX6_visitsOfBand_68 (lv_at hl 3 rfl) ?_
                                                          refine lv_iload hx hb dX6_visitsOfBand_70 (lv_at hl 1 rfl) ?_
                                                          refine my_gpI (my_pV (As := [.int 5, .int x]) (rest := []) (ci := 6) ⟨hx, hb, hml, hown, hts⟩ (cwV 2 hts gX6_visitsOfBand_X6_inNode rfl rfl rfl (by decide +kernel) ⟨Nat.le_of_ble_eq_true rfl, Nat.le_of_ble_eq_true rfl⟩) hN hK hP [0, 1] rfl 0 rfl rfl rfl rfl hl.1 rfl (Nat.le_of_ble_eq_true rfl) dX6_visitsOfBand_72 ⟨Nat.le_of_ble_eq_true rfl, Nat.le_of_ble_eq_true rfl⟩  (k0_X6_inNode_5 l D cI cJ h0 h1 h2 z x)) (fun r hp => ?_)
                                                          obtain rfl := hp
                                                          refine lv_if_le (tgt := 81) hx hb dX6_visitsOfBand_75 (by decide) (fun c75 => ?_) (fun c75 => ?_)
                                                          ·
                                                            obtain ⟨z_30, ez_30⟩ : ∃ y : Int32, y = x + (1) := ⟨_, rfl⟩
                                                            have tz_30 : z_30.toInt = x.toInt + (1) := by rw [ez_30]; exact my_addI rfl (by decide +kernel) (by omega) (by omega)
                                                            refine lv_iinc (v := z_30) (lv' := [(6, .int z_30), (7, .int 1), (5, .int 3), (4, .int 5), (3, .int 0), (2, .int b9), (1, .int a9), (0, .ref h0)]) hx hb dX6_visitsOfBand_81 hl (k := 1) rfl (by rw [ez_30]; rfl) (by decide) rfl (fun ls hl => ?_)
                                                            refine lv_goto (tgt := 25) hx hb dX6_visitsOfBand_84 (by decide) ?_
                                                            exact ih25  z_30 (by omega) (by omega) (by omega) ls (lv_sub hl [0, 2, 3, 4, 5, 6, 7] rfl)
                                                          ·
                                                            exact absurd c75 (by decide +kernel)
                                            exact loop25 (((256 - z_11.toInt).toNat) + 1) z_11 (Nat.lt_succ_self _) (by first | omega | decide +kernel) (by first | omega | decide +kernel) ls (lv_sub hl [0, 1, 2, 3, 4, 5, 6] rfl)
                                        ·
                                          have d31 : x.toInt ≤ z_10.toInt := my_ngt c31 rfl rfl
                                          refine lv_iload hx hb dX6_visitsOfBand_34 (lv_at hl 2 rfl) ?_
                                          refine lv_if_eq (tgt := 55) hx hb dX6_visitsOfBand_36 (by decide) (fun c36 => ?_) (fun c36 => ?_)
                                          ·
                                            exact absurd c36 (by decide +kernel)
                                          ·
                                            refine lv_iload hx hb dX6_visitsOfBand_39 (lv_at hl 0 rfl) ?_
                                            refine lv_iconst (v := 1) hx hb dX6_visitsOfBand_41 (by decide +kernel) ?_
                                            refine lv_ishr hx hb dX6_visitsOfBand_42 ?_
                                            refine lv_topi (fun z_31 ez_31 => ?_)
                                            have tz_31 : z_31.toInt = x.toInt / 2 := by rw [ez_31]; exact my_shrI 1 rfl (by omega) (by omega) (by omega)
                                            refine lv_iload hx hb dX6_visitsOfBand_43 (lv_at hl 1 rfl) ?_
                                            refine lv_iconst (v := 1) hx hb dX6_visitsOfBand_45 (by decide +kernel) ?_
                                            refine lv_iadd hx hb dX6_visitsOfBand_46 ?_
                                            refine my_eqi (y := 5) (by decide +kernel) ?_
                                            refine lv_iload_n hx hb dX6_visitsOfBand_47 rfl (lv_at hl 5 rfl) ?_
                                            refine lv_iload_n hx hb dX6_visitsOfBand_48 rfl (lv_at hl 4 rfl) ?_
                                            refine my_gpI (my_pS (As := [.int z_31, .int 5, .int a9, .int b9]) (rest := []) ⟨hx, hb, hml, hown, hts⟩ (va_cwS 4 hts gX6_visitsOfBand_X6_isWithin rfl rfl rfl (by decide +kernel) ⟨Nat.le_of_ble_eq_true rfl, Nat.le_of_ble_eq_true rfl⟩) hN hK hP [] rfl rfl hl.1 rfl (Nat.le_of_ble_eq_true rfl) dX6_visitsOfBand_49 ⟨Nat.le_of_ble_eq_true rfl, Nat.le_of_ble_eq_true rfl⟩  (k_X6_isWithin l D cI cJ z_31 (5 : Int32) a9 b9)) (fun r hp => ?_)
                                            rcases hp with rfl | rfl
                                            ·
                                              refine lv_if_ne (tgt := 59) hx hb dX6_visitsOfBand_52 (by decide) (fun c52 => ?_) (fun c52 => ?_)
                                              ·
                                                refine lv_iconst (v := 0) hx hb dX6_visitsOfBand_59 (by decide +kernel) ?_
                                                refine lv_istore (lv' := [(7, .int 0), (6, .int x), (5, .int 4), (4, .int 4), (3, .int 0), (2, .int b9), (1, .int a9), (0, .ref h0)]) hx hb dX6_visitsOfBand_60 hl (by decide) rfl (fun ls hl => ?_)
                                                refine lv_iload hx hb dX6_visitsOfBand_62 (lv_at hl 0 rfl) ?_
                                                refine lv_if_eq (tgt := 81) hx hb dX6_visitsOfBand_64 (by decide) (fun c64 => ?_) (fun c64 => ?_)
                                                ·
                                                  obtain ⟨z_32, ez_32⟩ : ∃ y : Int32, y = x + (1) := ⟨_, rfl⟩
                                                  have tz_32 : z_32.toInt = x.toInt + (1) := by rw [ez_32]; exact my_addI rfl (by decide +kernel) (by omega) (by omega)
                                                  refine lv_iinc (v := z_32) (lv' := [(6, .int z_32), (7, .int 0), (5, .int 4), (4, .int 4), (3, .int 0), (2, .int b9), (1, .int a9), (0, .ref h0)]) hx hb dX6_visitsOfBand_81 hl (k := 1) rfl (by rw [ez_32]; rfl) (by decide) rfl (fun ls hl => ?_)
                                                  refine lv_goto (tgt := 25) hx hb dX6_visitsOfBand_84 (by decide) ?_
                                                  exact ih25  z_32 (by omega) (by omega) (by omega) ls (lv_sub hl [0, 2, 3, 4, 5, 6, 7] rfl)
                                                ·
                                                  exact absurd c64 (by decide +kernel)
                                              ·
                                                exact absurd c52 (by decide +kernel)
                                            ·
                                              refine lv_if_ne (tgt := 59) hx hb dX6_visitsOfBand_52 (by decide) (fun c52 => ?_) (fun c52 => ?_)
                                              ·
                                                exact absurd c52 (by decide +kernel)
                                              ·
                                                refine lv_iconst (v := 1) hx hb dX6_visitsOfBand_55 (by decide +kernel) ?_
                                                refine lv_goto (tgt := 60) hx hb dX6_visitsOfBand_56 (by decide) ?_
                                                refine lv_istore (lv' := [(7, .int 1), (6, .int x), (5, .int 4), (4, .int 4), (3, .int 0), (2, .int b9), (1, .int a9), (0, .ref h0)]) hx hb dX6_visitsOfBand_60 hl (by decide) rfl (fun ls hl => ?_)
                                                refine lv_iload hx hb dX6_visitsOfBand_62 (lv_at hl 0 rfl) ?_
                                                refine lv_if_eq (tgt := 81) hx hb dX6_visitsOfBand_64 (by decide) (fun c64 => ?_) (fun c64 => ?_)
                                                ·
                                                  exact absurd c64 (by decide +kernel)
                                                ·
                                                  refine lv_aload_n hx hb dX6_visitsOfBand_67 rfl (lv_at hl 7 rfl) ?_
                                                  refine lv_iload hx hb dX6_visitsOfBand_68 (lv_at hl 3 rfl) ?_
                                                  refine lv_iload hx hb dX6_visitsOfBand_70 (lv_at hl 1 rfl) ?_
                                                  refine my_gpI (my_pV (As := [.int 4, .int x]) (rest := []) (ci := 6) ⟨hx, hb, hml, hown, hts⟩ (cwV 2 hts gX6_visitsOfBand_X6_inNode rfl rfl rfl (by decide +kernel) ⟨Nat.le_of_ble_eq_true rfl, Nat.le_of_ble_eq_true rfl⟩) hN hK hP [0, 1] rfl 0 rfl rfl rfl rfl hl.1 rfl (Nat.le_of_ble_eq_true rfl) dX6_visitsOfBand_72 ⟨Nat.le_of_ble_eq_true rfl, Nat.le_of_ble_eq_true rfl⟩  (k0_X6_inNode_4 l D cI cJ h0 h1 h2 z x)) (fun r hp => ?_)
                                                  obtain rfl := hp
                                                  refine lv_if_le (tgt := 81) hx hb dX6_visitsOfBand_75 (by decide) (fun c75 => ?_) (fun c75 => ?_)
                                                  ·
                                                    obtain ⟨z_33, ez_33⟩ : ∃ y : Int32, y = x + (1) := ⟨_, rfl⟩
                                                    have tz_33 : z_33.toInt = x.toInt + (1) := by rw [ez_33]; exact my_addI rfl (by decide +kernel) (by omega) (by omega)
                                                    refine lv_iinc (v := z_33) (lv' := [(6, .int z_33), (7, .int 1), (5, .int 4), (4, .int 4), (3, .int 0), (2, .int b9), (1, .int a9), (0, .ref h0)]) hx hb dX6_visitsOfBand_81 hl (k := 1) rfl (by rw [ez_33]; rfl) (by decide) rfl (fun ls hl => ?_)
                                                    refine lv_goto (tgt := 25) hx hb dX6_visitsOfBand_84 (by decide) ?_
                                                    exact ih25  z_33 (by omega) (by omega) (by omega) ls (lv_sub hl [0, 2, 3, 4, 5, 6, 7] rfl)
                                                  ·
                                                    exact absurd c75 (by decide +kernel)
                                    exact loop25 (((256 - z_9.toInt).toNat) + 1) z_9 (Nat.lt_succ_self _) (by first | omega | decide +kernel) (by first | omega | decide +kernel) ls (lv_sub hl [0, 1, 2, 3, 4, 5, 6] rfl)
                                ·
                                  have d31 : x.toInt ≤ z_8.toInt := my_ngt c31 rfl rfl
                                  refine lv_iload hx hb dX6_visitsOfBand_34 (lv_at hl 2 rfl) ?_
                                  refine lv_if_eq (tgt := 55) hx hb dX6_visitsOfBand_36 (by decide) (fun c36 => ?_) (fun c36 => ?_)
                                  ·
                                    exact absurd c36 (by decide +kernel)
                                  ·
                                    refine lv_iload hx hb dX6_visitsOfBand_39 (lv_at hl 0 rfl) ?_
                                    refine lv_iconst (v := 1) hx hb dX6_visitsOfBand_41 (by decide +kernel) ?_
                                    refine lv_ishr hx hb dX6_visitsOfBand_42 ?_
                                    refine lv_topi (fun z_34 ez_34 => ?_)
                                    have tz_34 : z_34.toInt = x.toInt / 2 := by rw [ez_34]; exact my_shrI 1 rfl (by omega) (by omega) (by omega)
                                    refine lv_iload hx hb dX6_visitsOfBand_43 (lv_at hl 1 rfl) ?_
                                    refine lv_iconst (v := 1) hx hb dX6_visitsOfBand_45 (by decide +kernel) ?_
                                    refine lv_iadd hx hb dX6_visitsOfBand_46 ?_
                                    refine my_eqi (y := 6) (by decide +kernel) ?_
                                    refine lv_iload_n hx hb dX6_visitsOfBand_47 rfl (lv_at hl 5 rfl) ?_
                                    refine lv_iload_n hx hb dX6_visitsOfBand_48 rfl (lv_at hl 4 rfl) ?_
                                    refine my_gpI (my_pS (As := [.int z_34, .int 6, .int a9, .int b9]) (rest := []) ⟨hx, hb, hml, hown, hts⟩ (va_cwS 4 hts gX6_visitsOfBand_X6_isWithin rfl rfl rfl (by decide +kernel) ⟨Nat.le_of_ble_eq_true rfl, Nat.le_of_ble_eq_true rfl⟩) hN hK hP [] rfl rfl hl.1 rfl (Nat.le_of_ble_eq_true rfl) dX6_visitsOfBand_49 ⟨Nat.le_of_ble_eq_true rfl, Nat.le_of_ble_eq_true rfl⟩  (k_X6_isWithin l D cI cJ z_34 (6 : Int32) a9 b9)) (fun r hp => ?_)
                                    rcases hp with rfl | rfl
                                    ·
                                      refine lv_if_ne (tgt := 59) hx hb dX6_visitsOfBand_52 (by decide) (fun c52 => ?_) (fun c52 => ?_)
                                      ·
                                        refine lv_iconst (v := 0) hx hb dX6_visitsOfBand_59 (by decide +kernel) ?_
                                        refine lv_istore (lv' := [(7, .int 0), (6, .int x), (5, .int 5), (4, .int 3), (3, .int 0), (2, .int b9), (1, .int a9), (0, .ref h0)]) hx hb dX6_visitsOfBand_60 hl (by decide) rfl (fun ls hl => ?_)
                                        refine lv_iload hx hb dX6_visitsOfBand_62 (lv_at hl 0 rfl) ?_
                                        refine lv_if_eq (tgt := 81) hx hb dX6_visitsOfBand_64 (by decide) (fun c64 => ?_) (fun c64 => ?_)
                                        ·
                                          obtain ⟨z_35, ez_35⟩ : ∃ y : Int32, y = x + (1) := ⟨_, rfl⟩
                                          have tz_35 : z_35.toInt = x.toInt + (1) := by rw [ez_35]; exact my_addI rfl (by decide +kernel) (by omega) (by omega)
                                          refine lv_iinc (v := z_35) (lv' := [(6, .int z_35), (7, .int 0), (5, .int 5), (4, .int 3), (3, .int 0), (2, .int b9), (1, .int a9), (0, .ref h0)]) hx hb dX6_visitsOfBand_81 hl (k := 1) rfl (by rw [ez_35]; rfl) (by decide) rfl (fun ls hl => ?_)
                                          refine lv_goto (tgt := 25) hx hb dX6_visitsOfBand_84 (by decide) ?_
                                          exact ih25  z_35 (by omega) (by omega) (by omega) ls (lv_sub hl [0, 2, 3, 4, 5, 6, 7] rfl)
                                        ·
                                          exact absurd c64 (by decide +kernel)
                                      ·
                                        exact absurd c52 (by decide +kernel)
                                    ·
                                      refine lv_if_ne (tgt := 59) hx hb dX6_visitsOfBand_52 (by decide) (fun c52 => ?_) (fun c52 => ?_)
                                      ·
                                        exact absurd c52 (by decide +kernel)
                                      ·
                                        refine lv_iconst (v := 1) hx hb dX6_visitsOfBand_55 (by decide +kernel) ?_
                                        refine lv_goto (tgt := 60) hx hb dX6_visitsOfBand_56 (by decide) ?_
                                        refine lv_istore (lv' := [(7, .int 1), (6, .int x), (5, .int 5), (4, .int 3), (3, .int 0), (2, .int b9), (1, .int a9), (0, .ref h0)]) hx hb dX6_visitsOfBand_60 hl (by decide) rfl (fun ls hl => ?_)
                                        refine lv_iload hx hb dX6_visitsOfBand_62 (lv_at hl 0 rfl) ?_
                                        refine lv_if_eq (tgt := 81) hx hb dX6_visitsOfBand_64 (by decide) (fun c64 => ?_) (fun c64 => ?_)
                                        ·
                                          exact absurd c64 (by decide +kernel)
                                        ·
                                          refine lv_aload_n hx hb dX6_visitsOfBand_67 rfl (lv_at hl 7 rfl) ?_
                                          refine lv_iload hx hb dX6_visitsOfBand_68 (lv_at hl 3 rfl) ?_
                                          refine lv_iload hx hb dX6_visitsOfBand_70 (lv_at hl 1 rfl) ?_
                                          refine my_gpI (my_pV (As := [.int 3, .int x]) (rest := []) (ci := 6) ⟨hx, hb, hml, hown, hts⟩ (cwV 2 hts gX6_visitsOfBand_X6_inNode rfl rfl rfl (by decide +kernel) ⟨Nat.le_of_ble_eq_true rfl, Nat.le_of_ble_eq_true rfl⟩) hN hK hP [0, 1] rfl 0 rfl rfl rfl rfl hl.1 rfl (Nat.le_of_ble_eq_true rfl) dX6_visitsOfBand_72 ⟨Nat.le_of_ble_eq_true rfl, Nat.le_of_ble_eq_true rfl⟩  (k0_X6_inNode_3 l D cI cJ h0 h1 h2 z x)) (fun r hp => ?_)
                                          obtain rfl := hp
                                          refine lv_if_le (tgt := 81) hx hb dX6_visitsOfBand_75 (by decide) (fun c75 => ?_) (fun c75 => ?_)
                                          ·
                                            obtain ⟨z_36, ez_36⟩ : ∃ y : Int32, y = x + (1) := ⟨_, rfl⟩
                                            have tz_36 : z_36.toInt = x.toInt + (1) := by rw [ez_36]; exact my_addI rfl (by decide +kernel) (by omega) (by omega)
                                            refine lv_iinc (v := z_36) (lv' := [(6, .int z_36), (7, .int 1), (5, .int 5), (4, .int 3), (3, .int 0), (2, .int b9), (1, .int a9), (0, .ref h0)]) hx hb dX6_visitsOfBand_81 hl (k := 1) rfl (by rw [ez_36]; rfl) (by decide) rfl (fun ls hl => ?_)
                                            refine lv_goto (tgt := 25) hx hb dX6_visitsOfBand_84 (by decide) ?_
                                            exact ih25  z_36 (by omega) (by omega) (by omega) ls (lv_sub hl [0, 2, 3, 4, 5, 6, 7] rfl)
                                          ·
                                            exact absurd c75 (by decide +kernel)
                            exact loop25 (((256 - z_7.toInt).toNat) + 1) z_7 (Nat.lt_succ_self _) (by first | omega | decide +kernel) (by first | omega | decide +kernel) ls (lv_sub hl [0, 1, 2, 3, 4, 5, 6] rfl)
                        ·
                          have d31 : x.toInt ≤ z_6.toInt := my_ngt c31 rfl rfl
                          refine lv_iload hx hb dX6_visitsOfBand_34 (lv_at hl 2 rfl) ?_
                          refine lv_if_eq (tgt := 55) hx hb dX6_visitsOfBand_36 (by decide) (fun c36 => ?_) (fun c36 => ?_)
                          ·
                            exact absurd c36 (by decide +kernel)
                          ·
                            refine lv_iload hx hb dX6_visitsOfBand_39 (lv_at hl 0 rfl) ?_
                            refine lv_iconst (v := 1) hx hb dX6_visitsOfBand_41 (by decide +kernel) ?_
                            refine lv_ishr hx hb dX6_visitsOfBand_42 ?_
                            refine lv_topi (fun z_37 ez_37 => ?_)
                            have tz_37 : z_37.toInt = x.toInt / 2 := by rw [ez_37]; exact my_shrI 1 rfl (by omega) (by omega) (by omega)
                            refine lv_iload hx hb dX6_visitsOfBand_43 (lv_at hl 1 rfl) ?_
                            refine lv_iconst (v := 1) hx hb dX6_visitsOfBand_45 (by decide +kernel) ?_
                            refine lv_iadd hx hb dX6_visitsOfBand_46 ?_
                            refine my_eqi (y := 7) (by decide +kernel) ?_
                            refine lv_iload_n hx hb dX6_visitsOfBand_47 rfl (lv_at hl 5 rfl) ?_
                            refine lv_iload_n hx hb dX6_visitsOfBand_48 rfl (lv_at hl 4 rfl) ?_
                            refine my_gpI (my_pS (As := [.int z_37, .int 7, .int a9, .int b9]) (rest := []) ⟨hx, hb, hml, hown, hts⟩ (va_cwS 4 hts gX6_visitsOfBand_X6_isWithin rfl rfl rfl (by decide +kernel) ⟨Nat.le_of_ble_eq_true rfl, Nat.le_of_ble_eq_true rfl⟩) hN hK hP [] rfl rfl hl.1 rfl (Nat.le_of_ble_eq_true rfl) dX6_visitsOfBand_49 ⟨Nat.le_of_ble_eq_true rfl, Nat.le_of_ble_eq_true rfl⟩  (k_X6_isWithin l D cI cJ z_37 (7 : Int32) a9 b9)) (fun r hp => ?_)
                            rcases hp with rfl | rfl
                            ·
                              refine lv_if_ne (tgt := 59) hx hb dX6_visitsOfBand_52 (by decide) (fun c52 => ?_) (fun c52 => ?_)
                              ·
                                refine lv_iconst (v := 0) hx hb dX6_visitsOfBand_59 (by decide +kernel) ?_
                                refine lv_istore (lv' := [(7, .int 0), (6, .int x), (5, .int 6), (4, .int 2), (3, .int 0), (2, .int b9), (1, .int a9), (0, .ref h0)]) hx hb dX6_visitsOfBand_60 hl (by decide) rfl (fun ls hl => ?_)
                                refine lv_iload hx hb dX6_visitsOfBand_62 (lv_at hl 0 rfl) ?_
                                refine lv_if_eq (tgt := 81) hx hb dX6_visitsOfBand_64 (by decide) (fun c64 => ?_) (fun c64 => ?_)
                                ·
                                  obtain ⟨z_38, ez_38⟩ : ∃ y : Int32, y = x + (1) := ⟨_, rfl⟩
                                  have tz_38 : z_38.toInt = x.toInt + (1) := by rw [ez_38]; exact my_addI rfl (by decide +kernel) (by omega) (by omega)
                                  refine lv_iinc (v := z_38) (lv' := [(6, .int z_38), (7, .int 0), (5, .int 6), (4, .int 2), (3, .int 0), (2, .int b9), (1, .int a9), (0, .ref h0)]) hx hb dX6_visitsOfBand_81 hl (k := 1) rfl (by rw [ez_38]; rfl) (by decide) rfl (fun ls hl => ?_)
                                  refine lv_goto (tgt := 25) hx hb dX6_visitsOfBand_84 (by decide) ?_
                                  exact ih25  z_38 (by omega) (by omega) (by omega) ls (lv_sub hl [0, 2, 3, 4, 5, 6, 7] rfl)
                                ·
                                  exact absurd c64 (by decide +kernel)
                              ·
                                exact absurd c52 (by decide +kernel)
                            ·
                              refine lv_if_ne (tgt := 59) hx hb dX6_visitsOfBand_52 (by decide) (fun c52 => ?_) (fun c52 => ?_)
                              ·
                                exact absurd c52 (by decide +kernel)
                              ·
                                refine lv_iconst (v := 1) hx hb dX6_visitsOfBand_55 (by decide +kernel) ?_
                                refine lv_goto (tgt := 60) hx hb dX6_visitsOfBand_56 (by decide) ?_
                                refine lv_istore (lv' := [(7, .int 1), (6, .int x), (5, .int 6), (4, .int 2), (3, .int 0), (2, .int b9), (1, .int a9), (0, .ref h0)]) hx hb dX6_visitsOfBand_60 hl (by decide) rfl (fun ls hl => ?_)
                                refine lv_iload hx hb dX6_visitsOfBand_62 (lv_at hl 0 rfl) ?_
                                refine lv_if_eq (tgt := 81) hx hb dX6_visitsOfBand_64 (by decide) (fun c64 => ?_) (fun c64 => ?_)
                                ·
                                  exact absurd c64 (by decide +kernel)
                                ·
                                  refine lv_aload_n hx hb dX6_visitsOfBand_67 rfl (lv_at hl 7 rfl) ?_
                                  refine lv_iload hx hb dX6_visitsOfBand_68 (lv_at hl 3 rfl) ?_
                                  refine lv_iload hx hb dX6_visitsOfBand_70 (lv_at hl 1 rfl) ?_
                                  refine my_gpI (my_pV (As := [.int 2, .int x]) (rest := []) (ci := 6) ⟨hx, hb, hml, hown, hts⟩ (cwV 2 hts gX6_visitsOfBand_X6_inNode rfl rfl rfl (by decide +kernel) ⟨Nat.le_of_ble_eq_true rfl, Nat.le_of_ble_eq_true rfl⟩) hN hK hP [0, 1] rfl 0 rfl rfl rfl rfl hl.1 rfl (Nat.le_of_ble_eq_true rfl) dX6_visitsOfBand_72 ⟨Nat.le_of_ble_eq_true rfl, Nat.le_of_ble_eq_true rfl⟩  (k0_X6_inNode_2 l D cI cJ h0 h1 h2 z x)) (fun r hp => ?_)
                                  obtain rfl := hp
                                  refine lv_if_le (tgt := 81) hx hb dX6_visitsOfBand_75 (by decide) (fun c75 => ?_) (fun c75 => ?_)
                                  ·
                                    obtain ⟨z_39, ez_39⟩ : ∃ y : Int32, y = x + (1) := ⟨_, rfl⟩
                                    have tz_39 : z_39.toInt = x.toInt + (1) := by rw [ez_39]; exact my_addI rfl (by decide +kernel) (by omega) (by omega)
                                    refine lv_iinc (v := z_39) (lv' := [(6, .int z_39), (7, .int 1), (5, .int 6), (4, .int 2), (3, .int 0), (2, .int b9), (1, .int a9), (0, .ref h0)]) hx hb dX6_visitsOfBand_81 hl (k := 1) rfl (by rw [ez_39]; rfl) (by decide) rfl (fun ls hl => ?_)
                                    refine lv_goto (tgt := 25) hx hb dX6_visitsOfBand_84 (by decide) ?_
                                    exact ih25  z_39 (by omega) (by omega) (by omega) ls (lv_sub hl [0, 2, 3, 4, 5, 6, 7] rfl)
                                  ·
                                    exact absurd c75 (by decide +kernel)
                    exact loop25 (((256 - z_5.toInt).toNat) + 1) z_5 (Nat.lt_succ_self _) (by first | omega | decide +kernel) (by first | omega | decide +kernel) ls (lv_sub hl [0, 1, 2, 3, 4, 5, 6] rfl)
                ·
                  have d31 : x.toInt ≤ z_4.toInt := my_ngt c31 rfl rfl
                  refine lv_iload hx hb dX6_visitsOfBand_34 (lv_at hl 2 rfl) ?_
                  refine lv_if_eq (tgt := 55) hx hb dX6_visitsOfBand_36 (by decide) (fun c36 => ?_) (fun c36 => ?_)
                  ·
                    exact absurd c36 (by decide +kernel)
                  ·
                    refine lv_iload hx hb dX6_visitsOfBand_39 (lv_at hl 0 rfl) ?_
                    refine lv_iconst (v := 1) hx hb dX6_visitsOfBand_41 (by decide +kernel) ?_
                    refine lv_ishr hx hb dX6_visitsOfBand_42 ?_
                    refine lv_topi (fun z_40 ez_40 => ?_)
                    have tz_40 : z_40.toInt = x.toInt / 2 := by rw [ez_40]; exact my_shrI 1 rfl (by omega) (by omega) (by omega)
                    refine lv_iload hx hb dX6_visitsOfBand_43 (lv_at hl 1 rfl) ?_
                    refine lv_iconst (v := 1) hx hb dX6_visitsOfBand_45 (by decide +kernel) ?_
                    refine lv_iadd hx hb dX6_visitsOfBand_46 ?_
                    refine my_eqi (y := 8) (by decide +kernel) ?_
                    refine lv_iload_n hx hb dX6_visitsOfBand_47 rfl (lv_at hl 5 rfl) ?_
                    refine lv_iload_n hx hb dX6_visitsOfBand_48 rfl (lv_at hl 4 rfl) ?_
                    refine my_gpI (my_pS (As := [.int z_40, .int 8, .int a9, .int b9]) (rest := []) ⟨hx, hb, hml, hown, hts⟩ (va_cwS 4 hts gX6_visitsOfBand_X6_isWithin rfl rfl rfl (by decide +kernel) ⟨Nat.le_of_ble_eq_true rfl, Nat.le_of_ble_eq_true rfl⟩) hN hK hP [] rfl rfl hl.1 rfl (Nat.le_of_ble_eq_true rfl) dX6_visitsOfBand_49 ⟨Nat.le_of_ble_eq_true rfl, Nat.le_of_ble_eq_true rfl⟩  (k_X6_isWithin l D cI cJ z_40 (8 : Int32) a9 b9)) (fun r hp => ?_)
                    rcases hp with rfl | rfl
                    ·
                      refine lv_if_ne (tgt := 59) hx hb dX6_visitsOfBand_52 (by decide) (fun c52 => ?_) (fun c52 => ?_)
                      ·
                        refine lv_iconst (v := 0) hx hb dX6_visitsOfBand_59 (by decide +kernel) ?_
                        refine lv_istore (lv' := [(7, .int 0), (6, .int x), (5, .int 7), (4, .int 1), (3, .int 0), (2, .int b9), (1, .int a9), (0, .ref h0)]) hx hb dX6_visitsOfBand_60 hl (by decide) rfl (fun ls hl => ?_)
                        refine lv_iload hx hb dX6_visitsOfBand_62 (lv_at hl 0 rfl) ?_
                        refine lv_if_eq (tgt := 81) hx hb dX6_visitsOfBand_64 (by decide) (fun c64 => ?_) (fun c64 => ?_)
                        ·
                          obtain ⟨z_41, ez_41⟩ : ∃ y : Int32, y = x + (1) := ⟨_, rfl⟩
                          have tz_41 : z_41.toInt = x.toInt + (1) := by rw [ez_41]; exact my_addI rfl (by decide +kernel) (by omega) (by omega)
                          refine lv_iinc (v := z_41) (lv' := [(6, .int z_41), (7, .int 0), (5, .int 7), (4, .int 1), (3, .int 0), (2, .int b9), (1, .int a9), (0, .ref h0)]) hx hb dX6_visitsOfBand_81 hl (k := 1) rfl (by rw [ez_41]; rfl) (by decide) rfl (fun ls hl => ?_)
                          refine lv_goto (tgt := 25) hx hb dX6_visitsOfBand_84 (by decide) ?_
                          exact ih25  z_41 (by omega) (by omega) (by omega) ls (lv_sub hl [0, 2, 3, 4, 5, 6, 7] rfl)
                        ·
                          exact absurd c64 (by decide +kernel)
                      ·
                        exact absurd c52 (by decide +kernel)
                    ·
                      refine lv_if_ne (tgt := 59) hx hb dX6_visitsOfBand_52 (by decide) (fun c52 => ?_) (fun c52 => ?_)
                      ·
                        exact absurd c52 (by decide +kernel)
                      ·
                        refine lv_iconst (v := 1) hx hb dX6_visitsOfBand_55 (by decide +kernel) ?_
                        refine lv_goto (tgt := 60) hx hb dX6_visitsOfBand_56 (by decide) ?_
                        refine lv_istore (lv' := [(7, .int 1), (6, .int x), (5, .int 7), (4, .int 1), (3, .int 0), (2, .int b9), (1, .int a9), (0, .ref h0)]) hx hb dX6_visitsOfBand_60 hl (by decide) rfl (fun ls hl => ?_)
                        refine lv_iload hx hb dX6_visitsOfBand_62 (lv_at hl 0 rfl) ?_
                        refine lv_if_eq (tgt := 81) hx hb dX6_visitsOfBand_64 (by decide) (fun c64 => ?_) (fun c64 => ?_)
                        ·
                          exact absurd c64 (by decide +kernel)
                        ·
                          refine lv_aload_n hx hb dX6_visitsOfBand_67 rfl (lv_at hl 7 rfl) ?_
                          refine lv_iload hx hb dX6_visitsOfBand_68 (lv_at hl 3 rfl) ?_
                          refine lv_iload hx hb dX6_visitsOfBand_70 (lv_at hl 1 rfl) ?_
                          refine my_gpI (my_pV (As := [.int 1, .int x]) (rest := []) (ci := 6) ⟨hx, hb, hml, hown, hts⟩ (cwV 2 hts gX6_visitsOfBand_X6_inNode rfl rfl rfl (by decide +kernel) ⟨Nat.le_of_ble_eq_true rfl, Nat.le_of_ble_eq_true rfl⟩) hN hK hP [0, 1] rfl 0 rfl rfl rfl rfl hl.1 rfl (Nat.le_of_ble_eq_true rfl) dX6_visitsOfBand_72 ⟨Nat.le_of_ble_eq_true rfl, Nat.le_of_ble_eq_true rfl⟩  (k0_X6_inNode_1 l D cI cJ h0 h1 h2 z x)) (fun r hp => ?_)
                          obtain rfl := hp
                          refine lv_if_le (tgt := 81) hx hb dX6_visitsOfBand_75 (by decide) (fun c75 => ?_) (fun c75 => ?_)
                          ·
                            obtain ⟨z_42, ez_42⟩ : ∃ y : Int32, y = x + (1) := ⟨_, rfl⟩
                            have tz_42 : z_42.toInt = x.toInt + (1) := by rw [ez_42]; exact my_addI rfl (by decide +kernel) (by omega) (by omega)
                            refine lv_iinc (v := z_42) (lv' := [(6, .int z_42), (7, .int 1), (5, .int 7), (4, .int 1), (3, .int 0), (2, .int b9), (1, .int a9), (0, .ref h0)]) hx hb dX6_visitsOfBand_81 hl (k := 1) rfl (by rw [ez_42]; rfl) (by decide) rfl (fun ls hl => ?_)
                            refine lv_goto (tgt := 25) hx hb dX6_visitsOfBand_84 (by decide) ?_
                            exact ih25  z_42 (by omega) (by omega) (by omega) ls (lv_sub hl [0, 2, 3, 4, 5, 6, 7] rfl)
                          ·
                            exact absurd c75 (by decide +kernel)
            exact loop25 (((256 - z_3.toInt).toNat) + 1) z_3 (Nat.lt_succ_self _) (by first | omega | decide +kernel) (by first | omega | decide +kernel) ls (lv_sub hl [0, 1, 2, 3, 4, 5, 6] rfl)
        ·
          have d31 : x.toInt ≤ z_2.toInt := my_ngt c31 rfl rfl
          refine lv_iload hx hb dX6_visitsOfBand_34 (lv_at hl 2 rfl) ?_
          refine lv_if_eq (tgt := 55) hx hb dX6_visitsOfBand_36 (by decide) (fun c36 => ?_) (fun c36 => ?_)
          ·
            refine lv_iconst (v := 1) hx hb dX6_visitsOfBand_55 (by decide +kernel) ?_
            refine lv_goto (tgt := 60) hx hb dX6_visitsOfBand_56 (by decide) ?_
            refine lv_istore (lv' := [(7, .int 1), (6, .int x), (5, .int 8), (4, .int 0), (3, .int 0), (2, .int b9), (1, .int a9), (0, .ref h0)]) hx hb dX6_visitsOfBand_60 hl (by decide) rfl (fun ls hl => ?_)
            refine lv_iload hx hb dX6_visitsOfBand_62 (lv_at hl 0 rfl) ?_
            refine lv_if_eq (tgt := 81) hx hb dX6_visitsOfBand_64 (by decide) (fun c64 => ?_) (fun c64 => ?_)
            ·
              exact absurd c64 (by decide +kernel)
            ·
              refine lv_aload_n hx hb dX6_visitsOfBand_67 rfl (lv_at hl 7 rfl) ?_
              refine lv_iload hx hb dX6_visitsOfBand_68 (lv_at hl 3 rfl) ?_
              refine lv_iload hx hb dX6_visitsOfBand_70 (lv_at hl 1 rfl) ?_
              refine my_gpI (my_pV (As := [.int 0, .int x]) (rest := []) (ci := 6) ⟨hx, hb, hml, hown, hts⟩ (cwV 2 hts gX6_visitsOfBand_X6_inNode rfl rfl rfl (by decide +kernel) ⟨Nat.le_of_ble_eq_true rfl, Nat.le_of_ble_eq_true rfl⟩) hN hK hP [0, 1] rfl 0 rfl rfl rfl rfl hl.1 rfl (Nat.le_of_ble_eq_true rfl) dX6_visitsOfBand_72 ⟨Nat.le_of_ble_eq_true rfl, Nat.le_of_ble_eq_true rfl⟩  (k0_X6_inNode_0 l D cI cJ h0 h1 h2 z x)) (fun r hp => ?_)
              obtain rfl := hp
              refine lv_if_le (tgt := 81) hx hb dX6_visitsOfBand_75 (by decide) (fun c75 => ?_) (fun c75 => ?_)
              ·
                obtain ⟨z_43, ez_43⟩ : ∃ y : Int32, y = x + (1) := ⟨_, rfl⟩
                have tz_43 : z_43.toInt = x.toInt + (1) := by rw [ez_43]; exact my_addI rfl (by decide +kernel) (by omega) (by omega)
                refine lv_iinc (v := z_43) (lv' := [(6, .int z_43), (7, .int 1), (5, .int 8), (4, .int 0), (3, .int 0), (2, .int b9), (1, .int a9), (0, .ref h0)]) hx hb dX6_visitsOfBand_81 hl (k := 1) rfl (by rw [ez_43]; rfl) (by decide) rfl (fun ls hl => ?_)
                refine lv_goto (tgt := 25) hx hb dX6_visitsOfBand_84 (by decide) ?_
                exact ih25  z_43 (by omega) (by omega) (by omega) ls (lv_sub hl [0, 2, 3, 4, 5, 6, 7] rfl)
              ·
                exact absurd c75 (by decide +kernel)
          ·
            exact absurd c36 (by decide +kernel)
    exact loop25 (((256 - z_1.toInt).toNat) + 1) z_1 (Nat.lt_succ_self _) (by first | omega | decide +kernel) (by first | omega | decide +kernel) ls (lv_sub hl [0, 1, 2, 3, 6, 5, 4] rfl)
