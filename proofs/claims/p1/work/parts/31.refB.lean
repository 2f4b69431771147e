set_option maxHeartbeats 4000000 in
set_option maxRecDepth 100000 in
theorem k0_X9_times (l : Launch) (D : va_G) (cI cJ : ClassId) (m0 : Nat) (a_row : Nat) (a_tape : Nat) (a_number : Nat) (a_read : Nat) (a_readBits : Nat) (a_stands : Nat) (a_parted : Nat) (a_bitsWere : Nat) (a_stood : Nat) (a_chosen : Nat) (a_bestChosen : Nat) (a_often : Nat) (a_sorted : Nat) (a_risen : Nat) (a_risenWays : Nat) (i_thrown : Int32) (i_told : Int32) (i_taped : Int32) (i_at : Int32) (i_to : Int32) (i_many : Int32) (i_readMany : Int32) (i_fewest : Int32) (i_size : Int32) (v : Int32) (h1 : 0 ≤ v.toInt) (h2 : v.toInt ≤ 255) : cpI l yX9_times wsX9_times ({ frames := 0, cells := 0, slots := 0, locals := 0 } : Room) D (tyIJ cI cJ) [.ref m0, .int 0, .int v] [(m0, .inr (9, [.int i_thrown, .int i_told, .ref a_row, .ref a_tape, .int i_taped, .int i_at, .int i_to, .int i_many, .ref a_number, .ref a_read, .int i_readMany, .ref a_readBits, .ref a_stands, .ref a_parted, .ref a_bitsWere, .ref a_stood, .ref a_chosen, .ref a_bestChosen, .int i_fewest, .ref a_often, .ref a_sorted, .int i_size, .ref a_risen, .ref a_risenWays])), (a_often, .inl (cI, 512, .inl (fun _ => (0 : Int32))))] (fun (r : Int32) => r = 0) := by
  refine cpI.of (cc := cX9_times) (maxL := 3) (ret := (some .int)) (by decide) rfl (Nat.le_of_ble_eq_true rfl) ?_
  intro p e s m below meth c ls hx hb hr hts hown hml hlocks hname hK hN hP hl
  have hl : lv_has ls 3 [(0, .ref m0), (1, .int 0), (2, .int v)] := hl
  have hown : s.vm.findClass RX9 = some m.cls := hown
  have hi9 : ∀ w ∈ u_ws RX9 TX9 24, w ∈ wsX9_times := by decide +kernel
  have fl76 := hts (.fieldLink RX9 76 "PlaneColumnModel" "often" "[I") (by decide +kernel)
  refine lv_aload_n hx hb dX9_times_0 rfl (lv_at hl 0 rfl) ?_
  refine va_get (ci := 9) (v := .ref a_often) (C := RX9) (T := TX9) (N := 24) hx hb hts hi9 hown hK hP 0 rfl rfl 19 (by decide) fl76 (fun _ h9 => h9) rfl dX9_times_1 ?_
  refine lv_sipush (v := 256) hx hb dX9_times_4 (by decide +kernel) ?_
  refine lv_iload_n hx hb dX9_times_7 rfl (lv_at hl 1 rfl) ?_
  refine lv_imul hx hb dX9_times_8 ?_
  refine my_eqi (y := 0) (by decide +kernel) ?_
  refine lv_iload_n hx hb dX9_times_9 rfl (lv_at hl 2 rfl) ?_
  refine lv_iadd hx hb dX9_times_10 ?_
  refine lv_topi (fun z_1 ez_1 => ?_)
  have tz_1 : z_1.toInt = (0 : Int) + v.toInt := by rw [ez_1]; exact my_addI (by decide +kernel) rfl (by omega) (by omega)
  refine va_iald hx hb hK hP 1 0 rfl rfl (vp_in_iff.mpr ⟨by omega, by omega⟩) dX9_times_11 ?_
  refine my_eqi (y := 0) rfl ?_
  exact my_rpI hx hb hr hlocks (rfl) dX9_times_12
set_option maxHeartbeats 4000000 in
set_option maxRecDepth 100000 in
theorem k0_X9_counts (l : Launch) (D : va_G) (cI cJ : ClassId) (m0 : Nat) (a_row : Nat) (a_tape : Nat) (a_number : Nat) (a_read : Nat) (a_readBits : Nat) (a_stands : Nat) (a_parted : Nat) (a_bitsWere : Nat) (a_stood : Nat) (a_chosen : Nat) (a_bestChosen : Nat) (a_often : Nat) (a_sorted : Nat) (a_risen : Nat) (a_risenWays : Nat) (i_thrown : Int32) (i_told : Int32) (i_taped : Int32) (i_at : Int32) (i_to : Int32) (i_many : Int32) (i_readMany : Int32) (i_fewest : Int32) (i_size : Int32) : ctV l yX9_counts wsX9_counts ({ frames := 0, cells := 0, slots := 0, locals := 0 } : Room) D (tyIJ cI cJ) [.ref m0, .int 0, .int 0, .int 0] [(m0, .inr (9, [.int i_thrown, .int i_told, .ref a_row, .ref a_tape, .int i_taped, .int i_at, .int i_to, .int i_many, .ref a_number, .ref a_read, .int i_readMany, .ref a_readBits, .ref a_stands, .ref a_parted, .ref a_bitsWere, .ref a_stood, .ref a_chosen, .ref a_bestChosen, .int i_fewest, .ref a_often, .ref a_sorted, .int i_size, .ref a_risen, .ref a_risenWays])), (a_often, .inl (cI, 512, .inl (fun _ => (0 : Int32))))] (fun (u : va_W) => u = [(m0, .inr (9, [.int i_thrown, .int i_told, .ref a_row, .ref a_tape, .int i_taped, .int i_at, .int i_to, .int i_many, .ref a_number, .ref a_read, .int i_readMany, .ref a_readBits, .ref a_stands, .ref a_parted, .ref a_bitsWere, .ref a_stood, .ref a_chosen, .ref a_bestChosen, .int i_fewest, .ref a_often, .ref a_sorted, .int i_size, .ref a_risen, .ref a_risenWays])), (a_often, .inl (cI, 512, .inl (fun _ => (0 : Int32))))]) := by
  refine ctV.of (cc := cX9_counts) (maxL := 5) (ret := none) (by decide) rfl (Nat.le_of_ble_eq_true rfl) ?_
  intro p e s m below meth c ls A hx hb hr hts hown hml hlocks hname hA hK hN hP hD hS hl
  have hl : lv_has ls 5 [(0, .ref m0), (1, .int 0), (2, .int 0), (3, .int 0)] := hl
  have hown : s.vm.findClass RX9 = some m.cls := hown
  have hi9 : ∀ w ∈ u_ws RX9 TX9 24, w ∈ wsX9_counts := by decide +kernel
  have fl76 := hts (.fieldLink RX9 76 "PlaneColumnModel" "often" "[I") (by decide +kernel)
  refine lv_iconst (v := 0) hx hb dX9_counts_0 (by decide +kernel) ?_
  refine lv_istore (lv' := [(4, .int 0), (0, .ref m0), (1, .int 0), (2, .int 0), (3, .int 0)]) hx hb dX9_counts_1 hl (by decide) rfl (fun ls hl => ?_)
  have loop3 : ∀ (n9 : Nat) (k : Nat), 256 - k < n9 → (k ≤ 256) → ∀ (H : Heap) (locs : List Loc) (ls : Array Slot), va_P D vwCl [(m0, .inr (9, [.int i_thrown, .int i_told, .ref a_row, .ref a_tape, .int i_taped, .int i_at, .int i_to, .int i_many, .ref a_number, .ref a_read, .int i_readMany, .ref a_readBits, .ref a_stands, .ref a_parted, .ref a_bitsWere, .ref a_stood, .ref a_chosen, .ref a_bestChosen, .int i_fewest, .ref a_often, .ref a_sorted, .int i_size, .ref a_risen, .ref a_risenWays])), (a_often, .inl (cI, 512, .inl (fun _ => (0 : Int32))))] H → va_D A [(m0, .inr (9, [.int i_thrown, .int i_told, .ref a_row, .ref a_tape, .int i_taped, .int i_at, .int i_to, .int i_many, .ref a_number, .ref a_read, .int i_readMany, .ref a_readBits, .ref a_stands, .ref a_parted, .ref a_bitsWere, .ref a_stood, .ref a_chosen, .ref a_bestChosen, .int i_fewest, .ref a_often, .ref a_sorted, .int i_size, .ref a_risen, .ref a_risenWays])), (a_often, .inl (cI, 512, .inl (fun _ => (0 : Int32))))] → va_S A s.heap H locs → lv_has ls 5 [(4, .int (nI k)), (3, .int 0), (2, .int 0), (1, .int 0), (0, .ref m0)] → W p l e ({ frames := 0, cells := 0, slots := 0, locals := 0 } : Room) s m [.ref m0, .int 0, .int 0, .int 0].toArray below meth c H locs 0 0 (MQ below (va_Qv (fun (u : va_W) => u = [(m0, .inr (9, [.int i_thrown, .int i_told, .ref a_row, .ref a_tape, .int i_taped, .int i_at, .int i_to, .int i_many, .ref a_number, .ref a_read, .int i_readMany, .ref a_readBits, .ref a_stands, .ref a_parted, .ref a_bitsWere, .ref a_stood, .ref a_chosen, .ref a_bestChosen, .int i_fewest, .ref a_often, .ref a_sorted, .int i_size, .ref a_risen, .ref a_risenWays])), (a_often, .inl (cI, 512, .inl (fun _ => (0 : Int32))))]) (my_B D (tyIJ cI cJ) A) A) [.ref m0, .int 0, .int 0, .int 0].toArray s 0 0 A) (F0 m 3 ls []) := by
    intro n9
    induction n9 with
    | zero =>
      intro k hn9
      exact absurd hn9 (Nat.not_lt_zero _)
    | succ n9 ih3 =>
      intro k hn9 hk H locs ls hP hD hS hl
      refine lv_iload hx hb dX9_counts_3 (lv_at hl 0 rfl) ?_
      refine lv_sipush (v := 256) hx hb dX9_counts_5 (by decide +kernel) ?_
      refine lv_icmp_ge (tgt := 31) hx hb dX9_counts_8 (by decide) (fun c8 => ?_) (fun c8 => ?_)
      ·
        have d8 : ((k : Nat) : Int) ≥ (256 : Int) := my_ge c8 (nI_toInt (by omega)) (by decide +kernel)
        refine lv_iload_n hx hb dX9_counts_31 rfl (lv_at hl 2 rfl) ?_
        refine lv_istore (lv' := [(4, .int 0), (3, .int 0), (2, .int 0), (1, .int 0), (0, .ref m0)]) hx hb dX9_counts_32 hl (by decide) rfl (fun ls hl => ?_)
        refine lv_iload hx hb dX9_counts_34 (lv_at hl 0 rfl) ?_
        refine lv_iload_n hx hb dX9_counts_36 rfl (lv_at hl 1 rfl) ?_
        refine lv_icmp_ge (tgt := 68) hx hb dX9_counts_37 (by decide) (fun c37 => ?_) (fun c37 => ?_)
        ·
          exact my_retV hx hb hr hlocks hK hS [(m0, .inr (9, [.int i_thrown, .int i_told, .ref a_row, .ref a_tape, .int i_taped, .int i_at, .int i_to, .int i_many, .ref a_number, .ref a_read, .int i_readMany, .ref a_readBits, .ref a_stands, .ref a_parted, .ref a_bitsWere, .ref a_stood, .ref a_chosen, .ref a_bestChosen, .int i_fewest, .ref a_often, .ref a_sorted, .int i_size, .ref a_risen, .ref a_risenWays])), (a_often, .inl (cI, 512, .inl (fun _ => (0 : Int32))))] (hP.sub [0, 1] rfl) (hD.sub [0, 1] (by decide) rfl) (rfl) dX9_counts_68
        ·
          exact absurd c37 (by decide +kernel)
      ·
        have d8 : ((k : Nat) : Int) < (256 : Int) := my_nge c8 (nI_toInt (by omega)) (by decide +kernel)
        refine lv_aload_n hx hb dX9_counts_11 rfl (lv_at hl 4 rfl) ?_
        refine va_get (ci := 9) (v := .ref a_often) (C := RX9) (T := TX9) (N := 24) hx hb hts hi9 hown hK hP 0 rfl rfl 19 (by decide) fl76 (fun _ h9 => h9) rfl dX9_counts_12 ?_
        refine lv_sipush (v := 256) hx hb dX9_counts_15 (by decide +kernel) ?_
        refine lv_iload_n hx hb dX9_counts_18 rfl (lv_at hl 3 rfl) ?_
        refine lv_imul hx hb dX9_counts_19 ?_
        refine my_eqi (y := 0) (by decide +kernel) ?_
        refine lv_iload hx hb dX9_counts_20 (lv_at hl 0 rfl) ?_
        refine lv_iadd hx hb dX9_counts_22 ?_
        refine my_eqi (y := nI k) (my_addN2 k 0) ?_
        refine lv_iconst (v := 0) hx hb dX9_counts_23 (by decide +kernel) ?_
        refine va_iast hx hb hK hP hD hS 1 0 rfl rfl (vp_in_nI (by omega) (by omega)) dX9_counts_24 (fun H locs hP hD hS => ?_)
        have eU : upd (fun _ => (0 : Int32)) (nI k : Int32).toNatClampNeg 0 = (fun _ => (0 : Int32)) := my_upd0 _
        rw [eU] at hP hD
        have hP : va_P D vwCl [(m0, .inr (9, [.int i_thrown, .int i_told, .ref a_row, .ref a_tape, .int i_taped, .int i_at, .int i_to, .int i_many, .ref a_number, .ref a_read, .int i_readMany, .ref a_readBits, .ref a_stands, .ref a_parted, .ref a_bitsWere, .ref a_stood, .ref a_chosen, .ref a_bestChosen, .int i_fewest, .ref a_often, .ref a_sorted, .int i_size, .ref a_risen, .ref a_risenWays])), (a_often, .inl (cI, 512, .inl (fun _ => (0 : Int32))))] H := hP
        have hD : va_D A [(m0, .inr (9, [.int i_thrown, .int i_told, .ref a_row, .ref a_tape, .int i_taped, .int i_at, .int i_to, .int i_many, .ref a_number, .ref a_read, .int i_readMany, .ref a_readBits, .ref a_stands, .ref a_parted, .ref a_bitsWere, .ref a_stood, .ref a_chosen, .ref a_bestChosen, .int i_fewest, .ref a_often, .ref a_sorted, .int i_size, .ref a_risen, .ref a_risenWays])), (a_often, .inl (cI, 512, .inl (fun _ => (0 : Int32))))] := hD
        refine lv_iinc (v := nI (k + 1)) (lv' := [(4, .int (nI (k + 1))), (3, .int 0), (2, .int 0), (1, .int 0), (0, .ref m0)]) hx hb dX9_counts_25 hl (k := 0) rfl (my_incN k 1 (by decide +kernel)) (by decide) rfl (fun ls hl => ?_)
        refine lv_goto (tgt := 3) hx hb dX9_counts_28 (by decide) ?_
        exact ih3  (k + 1) (by omega) (by omega) _ _ ls (hP.sub [0, 1] rfl) (hD.sub [0, 1] (by decide) rfl) hS (lv_sub hl [0, 1, 2, 3, 4] rfl)
  exact loop3 ((256 - 0) + 1) 0 (Nat.lt_succ_self _) (by first | omega | decide +kernel) _ _ ls (hP.sub [0, 1] rfl) (hD.sub [0, 1] (by decide) rfl) hS (lv_sub hl [0, 4, 3, 2, 1] rfl)
set_option maxHeartbeats 4000000 in
set_option maxRecDepth 100000 in
theorem k0_X9_within (l : Launch) (D : va_G) (cI cJ : ClassId) (m0 : Nat) (a_row : Nat) (a_tape : Nat) (a_number : Nat) (a_read : Nat) (a_readBits : Nat) (a_stands : Nat) (a_parted : Nat) (a_bitsWere : Nat) (a_stood : Nat) (a_chosen : Nat) (a_bestChosen : Nat) (a_often : Nat) (a_sorted : Nat) (a_risen : Nat) (a_risenWays : Nat) (i_thrown : Int32) (i_told : Int32) (i_taped : Int32) (i_at : Int32) (i_to : Int32) (i_many : Int32) (i_readMany : Int32) (i_fewest : Int32) (i_size : Int32) (a9 : Int32) (b9 : Int32) : cpI l yX9_within wsX9_within ({ frames := 1, cells := 0, slots := 0, locals := 60 } : Room) D (tyIJ cI cJ) [.ref m0, .int 0, .int a9, .int b9] [(m0, .inr (9, [.int i_thrown, .int i_told, .ref a_row, .ref a_tape, .int i_taped, .int i_at, .int i_to, .int i_many, .ref a_number, .ref a_read, .int i_readMany, .ref a_readBits, .ref a_stands, .ref a_parted, .ref a_bitsWere, .ref a_stood, .ref a_chosen, .ref a_bestChosen, .int i_fewest, .ref a_often, .ref a_sorted, .int i_size, .ref a_risen, .ref a_risenWays])), (a_often, .inl (cI, 512, .inl (fun _ => (0 : Int32))))] (fun (r : Int32) => r = 0) := by
  refine cpI.of (cc := cX9_within) (maxL := 6) (ret := (some .int)) (by decide) rfl (Nat.le_of_ble_eq_true rfl) ?_
  intro p e s m below meth c ls hx hb hr hts hown hml hlocks hname hK hN hP hl
  have hl : lv_has ls 6 [(0, .ref m0), (1, .int 0), (2, .int a9), (3, .int b9)] := hl
  have hown : s.vm.findClass RX9 = some m.cls := hown
  refine lv_iconst (v := 0) hx hb dX9_within_0 (by decide +kernel) ?_
  refine lv_istore (lv' := [(4, .int 0), (0, .ref m0), (1, .int 0), (2, .int a9), (3, .int b9)]) hx hb dX9_within_1 hl (by decide) rfl (fun ls hl => ?_)
  refine lv_iconst (v := 0) hx hb dX9_within_3 (by decide +kernel) ?_
  refine lv_iload_n hx hb dX9_within_4 rfl (lv_at hl 3 rfl) ?_
  refine va_mmax hx hb (hml.trans hl.1.symm) hown (hts (.methodLink RX9 181 Lib.Math.max.name) (by decide +kernel)) (hts (.static Lib.Math.max.name) (by decide +kernel)) (hts (.initialized "java/lang/Math") (by decide +kernel)) (hts (.code Lib.Math.max.name Lib.Math.max.code 2 (some .int)) (by decide +kernel)) (Nat.le_of_ble_eq_true rfl) (Nat.le_of_ble_eq_true rfl) (Nat.le_of_ble_eq_true rfl) (Nat.le_of_ble_eq_true rfl) dX9_within_5 ?_
  refine lv_topi (fun z_1 ez_1 => ?_)
  have tz_1 := my_maxI (a := (0 : Int)) (b := a9.toInt) ez_1 (by decide +kernel) rfl
  refine lv_istore (lv' := [(5, .int z_1), (4, .int 0), (0, .ref m0), (1, .int 0), (2, .int a9), (3, .int b9)]) hx hb dX9_within_8 hl (by decide) rfl (fun ls hl => ?_)
  have loop10 : ∀ (n9 : Nat) (x : Int32), (256 - x.toInt).toNat < n9 → (0 ≤ x.toInt) → ∀ (ls : Array Slot), lv_has ls 6 [(5, .int x), (4, .int 0), (3, .int b9), (2, .int a9), (1, .int 0), (0, .ref m0)] → W p l e ({ frames := 1, cells := 0, slots := 0, locals := 60 } : Room) s m [.ref m0, .int 0, .int a9, .int b9].toArray below meth c s.heap [] 0 0 (MQ below (vp_Si (fun (r : Int32) => r = 0)) [.ref m0, .int 0, .int a9, .int b9].toArray s 0 0 (fun _ => False)) (F0 m 10 ls []) := by
    intro n9
    induction n9 with
    | zero =>
      intro x hn9
      exact absurd hn9 (Nat.not_lt_zero _)
    | succ n9 ih10 =>
      intro x hn9 hx0 ls hl
      refine lv_iload hx hb dX9_within_10 (lv_at hl 0 rfl) ?_
      refine lv_iload_n hx hb dX9_within_12 rfl (lv_at hl 2 rfl) ?_
      refine lv_sipush (v := 255) hx hb dX9_within_13 (by decide +kernel) ?_
      refine va_mmin hx hb (hml.trans hl.1.symm) hown (hts (.methodLink RX9 186 Lib.Math.min.name) (by decide +kernel)) (hts (.static Lib.Math.min.name) (by decide +kernel)) (hts (.initialized "java/lang/Math") (by decide +kernel)) (hts (.code Lib.Math.min.name Lib.Math.min.code 2 (some .int)) (by decide +kernel)) (Nat.le_of_ble_eq_true rfl) (Nat.le_of_ble_eq_true rfl) (Nat.le_of_ble_eq_true rfl) (Nat.le_of_ble_eq_true rfl) dX9_within_16 ?_
      refine lv_topi (fun z_2 ez_2 => ?_)
      have tz_2 := my_minI (a := b9.toInt) (b := (255 : Int)) ez_2 rfl (by decide +kernel)
      refine lv_icmp_gt (tgt := 40) hx hb dX9_within_19 (by decide) (fun c19 => ?_) (fun c19 => ?_)
      ·
        have d19 : x.toInt > z_2.toInt := my_gt c19 rfl rfl
        refine lv_iload hx hb dX9_within_40 (lv_at hl 1 rfl) ?_
        exact my_rpI hx hb hr hlocks (rfl) dX9_within_42
      ·
        have d19 : x.toInt ≤ z_2.toInt := my_ngt c19 rfl rfl
        refine lv_iload hx hb dX9_within_22 (lv_at hl 1 rfl) ?_
        refine lv_aload_n hx hb dX9_within_24 rfl (lv_at hl 5 rfl) ?_
        refine lv_iload_n hx hb dX9_within_25 rfl (lv_at hl 4 rfl) ?_
        refine lv_iload hx hb dX9_within_26 (lv_at hl 0 rfl) ?_
        refine my_gpI (my_pV (As := [.int 0, .int x]) (rest := [.int 0]) (ci := 9) ⟨hx, hb, hml, hown, hts⟩ (cwV 2 hts gX9_within_X9_times rfl rfl rfl (by decide +kernel) ⟨Nat.le_of_ble_eq_true rfl, Nat.le_of_ble_eq_true rfl⟩) hN hK hP [0, 1] rfl 0 rfl rfl rfl rfl hl.1 rfl (Nat.le_of_ble_eq_true rfl) dX9_within_28 ⟨Nat.le_of_ble_eq_true rfl, Nat.le_of_ble_eq_true rfl⟩  (k0_X9_times l D cI cJ m0 a_row a_tape a_number a_read a_readBits a_stands a_parted a_bitsWere a_stood a_chosen a_bestChosen a_often a_sorted a_risen a_risenWays i_thrown i_told i_taped i_at i_to i_many i_readMany i_fewest i_size x (by first | omega | decide +kernel) (by first | omega | decide +kernel))) (fun r hp => ?_)
        obtain rfl := hp
        refine lv_iadd hx hb dX9_within_31 ?_
        refine my_eqi (y := 0) (by decide +kernel) ?_
        refine lv_istore (lv' := [(4, .int 0), (5, .int x), (3, .int b9), (2, .int a9), (1, .int 0), (0, .ref m0)]) hx hb dX9_within_32 hl (by decide) rfl (fun ls hl => ?_)
        obtain ⟨z_3, ez_3⟩ : ∃ y : Int32, y = x + (1) := ⟨_, rfl⟩
        have tz_3 : z_3.toInt = x.toInt + (1) := by rw [ez_3]; exact my_addI rfl (by decide +kernel) (by omega) (by omega)
        refine lv_iinc (v := z_3) (lv' := [(5, .int z_3), (4, .int 0), (3, .int b9), (2, .int a9), (1, .int 0), (0, .ref m0)]) hx hb dX9_within_34 hl (k := 1) rfl (by rw [ez_3]; rfl) (by decide) rfl (fun ls hl => ?_)
        refine lv_goto (tgt := 10) hx hb dX9_within_37 (by decide) ?_
        exact ih10  z_3 (by omega) (by omega) ls (lv_sub hl [0, 1, 2, 3, 4, 5] rfl)
  exact loop10 (((256 - z_1.toInt).toNat) + 1) z_1 (Nat.lt_succ_self _) (by first | omega | decide +kernel) ls (lv_sub hl [0, 1, 5, 4, 3, 2] rfl)
set_option maxHeartbeats 4000000 in
set_option maxRecDepth 100000 in
theorem k1_X9_times (l : Launch) (D : va_G) (cI cJ : ClassId) (m0 : Nat) (a_row : Nat) (a_tape : Nat) (a_number : Nat) (a_read : Nat) (a_readBits : Nat) (a_stands : Nat) (a_parted : Nat) (a_bitsWere : Nat) (a_stood : Nat) (a_chosen : Nat) (a_bestChosen : Nat) (a_often : Nat) (a_sorted : Nat) (a_risen : Nat) (a_risenWays : Nat) (i_thrown : Int32) (i_told : Int32) (i_taped : Int32) (i_at : Int32) (i_to : Int32) (i_many : Int32) (i_readMany : Int32) (i_fewest : Int32) (i_size : Int32) (v : Int32) (h1 : 0 ≤ v.toInt) (h2 : v.toInt ≤ 255) : cpI l yX9_times wsX9_times ({ frames := 0, cells := 0, slots := 0, locals := 0 } : Room) D (tyIJ cI cJ) [.ref m0, .int 1, .int v] [(m0, .inr (9, [.int i_thrown, .int i_told, .ref a_row, .ref a_tape, .int i_taped, .int i_at, .int i_to, .int i_many, .ref a_number, .ref a_read, .int i_readMany, .ref a_readBits, .ref a_stands, .ref a_parted, .ref a_bitsWere, .ref a_stood, .ref a_chosen, .ref a_bestChosen, .int i_fewest, .ref a_often, .ref a_sorted, .int i_size, .ref a_risen, .ref a_risenWays])), (a_often, .inl (cI, 512, .inl (fun _ => (0 : Int32))))] (fun (r : Int32) => r = 0) := by
  refine cpI.of (cc := cX9_times) (maxL := 3) (ret := (some .int)) (by decide) rfl (Nat.le_of_ble_eq_true rfl) ?_
  intro p e s m below meth c ls hx hb hr hts hown hml hlocks hname hK hN hP hl
  have hl : lv_has ls 3 [(0, .ref m0), (1, .int 1), (2, .int v)] := hl
  have hown : s.vm.findClass RX9 = some m.cls := hown
  have hi9 : ∀ w ∈ u_ws RX9 TX9 24, w ∈ wsX9_times := by decide +kernel
  have fl76 := hts (.fieldLink RX9 76 "PlaneColumnModel" "often" "[I") (by decide +kernel)
  refine lv_aload_n hx hb dX9_times_0 rfl (lv_at hl 0 rfl) ?_
  refine va_get (ci := 9) (v := .ref a_often) (C := RX9) (T := TX9) (N := 24) hx hb hts hi9 hown hK hP 0 rfl rfl 19 (by decide) fl76 (fun _ h9 => h9) rfl dX9_times_1 ?_
  refine lv_sipush (v := 256) hx hb dX9_times_4 (by decide +kernel) ?_
  refine lv_iload_n hx hb dX9_times_7 rfl (lv_at hl 1 rfl) ?_
  refine lv_imul hx hb dX9_times_8 ?_
  refine my_eqi (y := 256) (by decide +kernel) ?_
  refine lv_iload_n hx hb dX9_times_9 rfl (lv_at hl 2 rfl) ?_
  refine lv_iadd hx hb dX9_times_10 ?_
  refine lv_topi (fun z_1 ez_1 => ?_)
  have tz_1 : z_1.toInt = (256 : Int) + v.toInt := by rw [ez_1]; exact my_addI (by decide +kernel) rfl (by omega) (by omega)
  refine va_iald hx hb hK hP 1 0 rfl rfl (vp_in_iff.mpr ⟨by omega, by omega⟩) dX9_times_11 ?_
  refine my_eqi (y := 0) rfl ?_
  exact my_rpI hx hb hr hlocks (rfl) dX9_times_12
set_option maxHeartbeats 4000000 in
set_option maxRecDepth 100000 in
theorem k1_X9_counts (l : Launch) (D : va_G) (cI cJ : ClassId) (m0 : Nat) (a_row : Nat) (a_tape : Nat) (a_number : Nat) (a_read : Nat) (a_readBits : Nat) (a_stands : Nat) (a_parted : Nat) (a_bitsWere : Nat) (a_stood : Nat) (a_chosen : Nat) (a_bestChosen : Nat) (a_often : Nat) (a_sorted : Nat) (a_risen : Nat) (a_risenWays : Nat) (i_thrown : Int32) (i_told : Int32) (i_taped : Int32) (i_at : Int32) (i_to : Int32) (i_many : Int32) (i_readMany : Int32) (i_fewest : Int32) (i_size : Int32) : ctV l yX9_counts wsX9_counts ({ frames := 0, cells := 0, slots := 0, locals := 0 } : Room) D (tyIJ cI cJ) [.ref m0, .int 1, .int 0, .int 0] [(m0, .inr (9, [.int i_thrown, .int i_told, .ref a_row, .ref a_tape, .int i_taped, .int i_at, .int i_to, .int i_many, .ref a_number, .ref a_read, .int i_readMany, .ref a_readBits, .ref a_stands, .ref a_parted, .ref a_bitsWere, .ref a_stood, .ref a_chosen, .ref a_bestChosen, .int i_fewest, .ref a_often, .ref a_sorted, .int i_size, .ref a_risen, .ref a_risenWays])), (a_often, .inl (cI, 512, .inl (fun _ => (0 : Int32))))] (fun (u : va_W) => u = [(m0, .inr (9, [.int i_thrown, .int i_told, .ref a_row, .ref a_tape, .int i_taped, .int i_at, .int i_to, .int i_many, .ref a_number, .ref a_read, .int i_readMany, .ref a_readBits, .ref a_stands, .ref a_parted, .ref a_bitsWere, .ref a_stood, .ref a_chosen, .ref a_bestChosen, .int i_fewest, .ref a_often, .ref a_sorted, .int i_size, .ref a_risen, .ref a_risenWays])), (a_often, .inl (cI, 512, .inl (fun _ => (0 : Int32))))]) := by
  refine ctV.of (cc := cX9_counts) (maxL := 5) (ret := none) (by decide) rfl (Nat.le_of_ble_eq_true rfl) ?_
  intro p e s m below meth c ls A hx hb hr hts hown hml hlocks hname hA hK hN hP hD hS hl
  have hl : lv_has ls 5 [(0, .ref m0), (1, .int 1), (2, .int 0), (3, .int 0)] := hl
  have hown : s.vm.findClass RX9 = some m.cls := hown
  have hi9 : ∀ w ∈ u_ws RX9 TX9 24, w ∈ wsX9_counts := by decide +kernel
  have fl76 := hts (.fieldLink RX9 76 "PlaneColumnModel" "often" "[I") (by decide +kernel)
  refine lv_iconst (v := 0) hx hb dX9_counts_0 (by decide +kernel) ?_
  refine lv_istore (lv' := [(4, .int 0), (0, .ref m0), (1, .int 1), (2, .int 0), (3, .int 0)]) hx hb dX9_counts_1 hl (by decide) rfl (fun ls hl => ?_)
  have loop3 : ∀ (n9 : Nat) (k : Nat), 256 - k < n9 → (k ≤ 256) → ∀ (H : Heap) (locs : List Loc) (ls : Array Slot), va_P D vwCl [(m0, .inr (9, [.int i_thrown, .int i_told, .ref a_row, .ref a_tape, .int i_taped, .int i_at, .int i_to, .int i_many, .ref a_number, .ref a_read, .int i_readMany, .ref a_readBits, .ref a_stands, .ref a_parted, .ref a_bitsWere, .ref a_stood, .ref a_chosen, .ref a_bestChosen, .int i_fewest, .ref a_often, .ref a_sorted, .int i_size, .ref a_risen, .ref a_risenWays])), (a_often, .inl (cI, 512, .inl (fun _ => (0 : Int32))))] H → va_D A [(m0, .inr (9, [.int i_thrown, .int i_told, .ref a_row, .ref a_tape, .int i_taped, .int i_at, .int i_to, .int i_many, .ref a_number, .ref a_read, .int i_readMany, .ref a_readBits, .ref a_stands, .ref a_parted, .ref a_bitsWere, .ref a_stood, .ref a_chosen, .ref a_bestChosen, .int i_fewest, .ref a_often, .ref a_sorted, .int i_size, .ref a_risen, .ref a_risenWays])), (a_often, .inl (cI, 512, .inl (fun _ => (0 : Int32))))] → va_S A s.heap H locs → lv_has ls 5 [(4, .int (nI k)), (3, .int 0), (2, .int 0), (1, .int 1), (0, .ref m0)] → W p l e ({ frames := 0, cells := 0, slots := 0, locals := 0 } : Room) s m [.ref m0, .int 1, .int 0, .int 0].toArray below meth c H locs 0 0 (MQ below (va_Qv (fun (u : va_W) => u = [(m0, .inr (9, [.int i_thrown, .int i_told, .ref a_row, .ref a_tape, .int i_taped, .int i_at, .int i_to, .int i_many, .ref a_number, .ref a_read, .int i_readMany, .ref a_readBits, .ref a_stands, .ref a_parted, .ref a_bitsWere, .ref a_stood, .ref a_chosen, .ref a_bestChosen, .int i_fewest, .ref a_often, .ref a_sorted, .int i_size, .ref a_risen, .ref a_risenWays])), (a_often, .inl (cI, 512, .inl (fun _ => (0 : Int32))))]) (my_B D (tyIJ cI cJ) A) A) [.ref m0, .int 1, .int 0, .int 0].toArray s 0 0 A) (F0 m 3 ls []) := by
    intro n9
    induction n9 with
    | zero =>
      intro k hn9
      exact absurd hn9 (Nat.not_lt_zero _)
    | succ n9 ih3 =>
      intro k hn9 hk H locs ls hP hD hS hl
      refine lv_iload hx hb dX9_counts_3 (lv_at hl 0 rfl) ?_
      refine lv_sipush (v := 256) hx hb dX9_counts_5 (by decide +kernel) ?_
      refine lv_icmp_ge (tgt := 31) hx hb dX9_counts_8 (by decide) (fun c8 => ?_) (fun c8 => ?_)
      ·
        have d8 : ((k : Nat) : Int) ≥ (256 : Int) := my_ge c8 (nI_toInt (by omega)) (by decide +kernel)
        refine lv_iload_n hx hb dX9_counts_31 rfl (lv_at hl 2 rfl) ?_
        refine lv_istore (lv' := [(4, .int 0), (3, .int 0), (2, .int 0), (1, .int 1), (0, .ref m0)]) hx hb dX9_counts_32 hl (by decide) rfl (fun ls hl => ?_)
        refine lv_iload hx hb dX9_counts_34 (lv_at hl 0 rfl) ?_
        refine lv_iload_n hx hb dX9_counts_36 rfl (lv_at hl 1 rfl) ?_
        refine lv_icmp_ge (tgt := 68) hx hb dX9_counts_37 (by decide) (fun c37 => ?_) (fun c37 => ?_)
        ·
          exact my_retV hx hb hr hlocks hK hS [(m0, .inr (9, [.int i_thrown, .int i_told, .ref a_row, .ref a_tape, .int i_taped, .int i_at, .int i_to, .int i_many, .ref a_number, .ref a_read, .int i_readMany, .ref a_readBits, .ref a_stands, .ref a_parted, .ref a_bitsWere, .ref a_stood, .ref a_chosen, .ref a_bestChosen, .int i_fewest, .ref a_often, .ref a_sorted, .int i_size, .ref a_risen, .ref a_risenWays])), (a_often, .inl (cI, 512, .inl (fun _ => (0 : Int32))))] (hP.sub [0, 1] rfl) (hD.sub [0, 1] (by decide) rfl) (rfl) dX9_counts_68
        ·
          exact absurd c37 (by decide +kernel)
      ·
        have d8 : ((k : Nat) : Int) < (256 : Int) := my_nge c8 (nI_toInt (by omega)) (by decide +kernel)
        refine lv_aload_n hx hb dX9_counts_11 rfl (lv_at hl 4 rfl) ?_
        refine va_get (ci := 9) (v := .ref a_often) (C := RX9) (T := TX9) (N := 24) hx hb hts hi9 hown hK hP 0 rfl rfl 19 (by decide) fl76 (fun _ h9 => h9) rfl dX9_counts_12 ?_
        refine lv_sipush (v := 256) hx hb dX9_counts_15 (by decide +kernel) ?_
        refine lv_iload_n hx hb dX9_counts_18 rfl (lv_at hl 3 rfl) ?_
        refine lv_imul hx hb dX9_counts_19 ?_
        refine my_eqi (y := 256) (by decide +kernel) ?_
        refine lv_iload hx hb dX9_counts_20 (lv_at hl 0 rfl) ?_
        refine lv_iadd hx hb dX9_counts_22 ?_
        refine my_eqi (y := nI (k + 256)) (my_addN2 k 256) ?_
        refine lv_iconst (v := 0) hx hb dX9_counts_23 (by decide +kernel) ?_
        refine va_iast hx hb hK hP hD hS 1 0 rfl rfl (vp_in_nI (by omega) (by omega)) dX9_counts_24 (fun H locs hP hD hS => ?_)
        have eU : upd (fun _ => (0 : Int32)) (nI (k + 256) : Int32).toNatClampNeg 0 = (fun _ => (0 : Int32)) := my_upd0 _
        rw [eU] at hP hD
        have hP : va_P D vwCl [(m0, .inr (9, [.int i_thrown, .int i_told, .ref a_row, .ref a_tape, .int i_taped, .int i_at, .int i_to, .int i_many, .ref a_number, .ref a_read, .int i_readMany, .ref a_readBits, .ref a_stands, .ref a_parted, .ref a_bitsWere, .ref a_stood, .ref a_chosen, .ref a_bestChosen, .int i_fewest, .ref a_often, .ref a_sorted, .int i_size, .ref a_risen, .ref a_risenWays])), (a_often, .inl (cI, 512, .inl (fun _ => (0 : Int32))))] H := hP
        have hD : va_D A [(m0, .inr (9, [.int i_thrown, .int i_told, .ref a_row, .ref a_tape, .int i_taped, .int i_at, .int i_to, .int i_many, .ref a_number, .ref a_read, .int i_readMany, .ref a_readBits, .ref a_stands, .ref a_parted, .ref a_bitsWere, .ref a_stood, .ref a_chosen, .ref a_bestChosen, .int i_fewest, .ref a_often, .ref a_sorted, .int i_size, .ref a_risen, .ref a_risenWays])), (a_often, .inl (cI, 512, .inl (fun _ => (0 : Int32))))] := hD
        refine lv_iinc (v := nI (k + 1)) (lv' := [(4, .int (nI (k + 1))), (3, .int 0), (2, .int 0), (1, .int 1), (0, .ref m0)]) hx hb dX9_counts_25 hl (k := 0) rfl (my_incN k 1 (by decide +kernel)) (by decide) rfl (fun ls hl => ?_)
        refine lv_goto (tgt := 3) hx hb dX9_counts_28 (by decide) ?_
        exact ih3  (k + 1) (by omega) (by omega) _ _ ls (hP.sub [0, 1] rfl) (hD.sub [0, 1] (by decide) rfl) hS (lv_sub hl [0, 1, 2, 3, 4] rfl)
  exact loop3 ((256 - 0) + 1) 0 (Nat.lt_succ_self _) (by first | omega | decide +kernel) _ _ ls (hP.sub [0, 1] rfl) (hD.sub [0, 1] (by decide) rfl) hS (lv_sub hl [0, 4, 3, 2, 1] rfl)
set_option maxHeartbeats 4000000 in
set_option maxRecDepth 100000 in
theorem k1_X9_within (l : Launch) (D : va_G) (cI cJ : ClassId) (m0 : Nat) (a_row : Nat) (a_tape : Nat) (a_number : Nat) (a_read : Nat) (a_readBits : Nat) (a_stands : Nat) (a_parted : Nat) (a_bitsWere : Nat) (a_stood : Nat) (a_chosen : Nat) (a_bestChosen : Nat) (a_often : Nat) (a_sorted : Nat) (a_risen : Nat) (a_risenWays : Nat) (i_thrown : Int32) (i_told : Int32) (i_taped : Int32) (i_at : Int32) (i_to : Int32) (i_many : Int32) (i_readMany : Int32) (i_fewest : Int32) (i_size : Int32) (a9 : Int32) (b9 : Int32) : cpI l yX9_within wsX9_within ({ frames := 1, cells := 0, slots := 0, locals := 60 } : Room) D (tyIJ cI cJ) [.ref m0, .int 1, .int a9, .int b9] [(m0, .inr (9, [.int i_thrown, .int i_told, .ref a_row, .ref a_tape, .int i_taped, .int i_at, .int i_to, .int i_many, .ref a_number, .ref a_read, .int i_readMany, .ref a_readBits, .ref a_stands, .ref a_parted, .ref a_bitsWere, .ref a_stood, .ref a_chosen, .ref a_bestChosen, .int i_fewest, .ref a_often, .ref a_sorted, .int i_size, .ref a_risen, .ref a_risenWays])), (a_often, .inl (cI, 512, .inl (fun _ => (0 : Int32))))] (fun (r : Int32) => r = 0) := by
  refine cpI.of (cc := cX9_within) (maxL := 6) (ret := (some .int)) (by decide) rfl (Nat.le_of_ble_eq_true rfl) ?_
  intro p e s m below meth c ls hx hb hr hts hown hml hlocks hname hK hN hP hl
  have hl : lv_has ls 6 [(0, .ref m0), (1, .int 1), (2, .int a9), (3, .int b9)] := hl
  have hown : s.vm.findClass RX9 = some m.cls := hown
  refine lv_iconst (v := 0) hx hb dX9_within_0 (by decide +kernel) ?_
  refine lv_istore (lv' := [(4, .int 0), (0, .ref m0), (1, .int 1), (2, .int a9), (3, .int b9)]) hx hb dX9_within_1 hl (by decide) rfl (fun ls hl => ?_)
  refine lv_iconst (v := 0) hx hb dX9_within_3 (by decide +kernel) ?_
  refine lv_iload_n hx hb dX9_within_4 rfl (lv_at hl 3 rfl) ?_
  refine va_mmax hx hb (hml.trans hl.1.symm) hown (hts (.methodLink RX9 181 Lib.Math.max.name) (by decide +kernel)) (hts (.static Lib.Math.max.name) (by decide +kernel)) (hts (.initialized "java/lang/Math") (by decide +kernel)) (hts (.code Lib.Math.max.name Lib.Math.max.code 2 (some .int)) (by decide +kernel)) (Nat.le_of_ble_eq_true rfl) (Nat.le_of_ble_eq_true rfl) (Nat.le_of_ble_eq_true rfl) (Nat.le_of_ble_eq_true rfl) dX9_within_5 ?_
  refine lv_topi (fun z_1 ez_1 => ?_)
  have tz_1 := my_maxI (a := (0 : Int)) (b := a9.toInt) ez_1 (by decide +kernel) rfl
  refine lv_istore (lv' := [(5, .int z_1), (4, .int 0), (0, .ref m0), (1, .int 1), (2, .int a9), (3, .int b9)]) hx hb dX9_within_8 hl (by decide) rfl (fun ls hl => ?_)
  have loop10 : ∀ (n9 : Nat) (x : Int32), (256 - x.toInt).toNat < n9 → (0 ≤ x.toInt) → ∀ (ls : Array Slot), lv_has ls 6 [(5, .int x), (4, .int 0), (3, .int b9), (2, .int a9), (1, .int 1), (0, .ref m0)] → W p l e ({ frames := 1, cells := 0, slots := 0, locals := 60 } : Room) s m [.ref m0, .int 1, .int a9, .int b9].toArray below meth c s.heap [] 0 0 (MQ below (vp_Si (fun (r : Int32) => r = 0)) [.ref m0, .int 1, .int a9, .int b9].toArray s 0 0 (fun _ => False)) (F0 m 10 ls []) := by
    intro n9
    induction n9 with
    | zero =>
      intro x hn9
      exact absurd hn9 (Nat.not_lt_zero _)
    | succ n9 ih10 =>
      intro x hn9 hx0 ls hl
      refine lv_iload hx hb dX9_within_10 (lv_at hl 0 rfl) ?_
      refine lv_iload_n hx hb dX9_within_12 rfl (lv_at hl 2 rfl) ?_
      refine lv_sipush (v := 255) hx hb dX9_within_13 (by decide +kernel) ?_
      refine va_mmin hx hb (hml.trans hl.1.symm) hown (hts (.methodLink RX9 186 Lib.Math.min.name) (by decide +kernel)) (hts (.static Lib.Math.min.name) (by decide +kernel)) (hts (.initialized "java/lang/Math") (by decide +kernel)) (hts (.code Lib.Math.min.name Lib.Math.min.code 2 (some .int)) (by decide +kernel)) (Nat.le_of_ble_eq_true rfl) (Nat.le_of_ble_eq_true rfl) (Nat.le_of_ble_eq_true rfl) (Nat.le_of_ble_eq_true rfl) dX9_within_16 ?_
      refine lv_topi (fun z_2 ez_2 => ?_)
      have tz_2 := my_minI (a := b9.toInt) (b := (255 : Int)) ez_2 rfl (by decide +kernel)
      refine lv_icmp_gt (tgt := 40) hx hb dX9_within_19 (by decide) (fun c19 => ?_) (fun c19 => ?_)
      ·
        have d19 : x.toInt > z_2.toInt := my_gt c19 rfl rfl
        refine lv_iload hx hb dX9_within_40 (lv_at hl 1 rfl) ?_
        exact my_rpI hx hb hr hlocks (rfl) dX9_within_42
      ·
        have d19 : x.toInt ≤ z_2.toInt := my_ngt c19 rfl rfl
        refine lv_iload hx hb dX9_within_22 (lv_at hl 1 rfl) ?_
        refine lv_aload_n hx hb dX9_within_24 rfl (lv_at hl 5 rfl) ?_
        refine lv_iload_n hx hb dX9_within_25 rfl (lv_at hl 4 rfl) ?_
        refine lv_iload hx hb dX9_within_26 (lv_at hl 0 rfl) ?_
        refine my_gpI (my_pV (As := [.int 1, .int x]) (rest := [.int 0]) (ci := 9) ⟨hx, hb, hml, hown, hts⟩ (cwV 2 hts gX9_within_X9_times rfl rfl rfl (by decide +kernel) ⟨Nat.le_of_ble_eq_true rfl, Nat.le_of_ble_eq_true rfl⟩) hN hK hP [0, 1] rfl 0 rfl rfl rfl rfl hl.1 rfl (Nat.le_of_ble_eq_true rfl) dX9_within_28 ⟨Nat.le_of_ble_eq_true rfl, Nat.le_of_ble_eq_true rfl⟩  (k1_X9_times l D cI cJ m0 a_row a_tape a_number a_read a_readBits a_stands a_parted a_bitsWere a_stood a_chosen a_bestChosen a_often a_sorted a_risen a_risenWays i_thrown i_told i_taped i_at i_to i_many i_readMany i_fewest i_size x (by first | omega | decide +kernel) (by first | omega | decide +kernel))) (fun r hp => ?_)
        obtain rfl := hp
        refine lv_iadd hx hb dX9_within_31 ?_
        refine my_eqi (y := 0) (by decide +kernel) ?_
        refine lv_istore (lv' := [(4, .int 0), (5, .int x), (3, .int b9), (2, .int a9), (1, .int 1), (0, .ref m0)]) hx hb dX9_within_32 hl (by decide) rfl (fun ls hl => ?_)
        obtain ⟨z_3, ez_3⟩ : ∃ y : Int32, y = x + (1) := ⟨_, rfl⟩
        have tz_3 : z_3.toInt = x.toInt + (1) := by rw [ez_3]; exact my_addI rfl (by decide +kernel) (by omega) (by omega)
        refine lv_iinc (v := z_3) (lv' := [(5, .int z_3), (4, .int 0), (3, .int b9), (2, .int a9), (1, .int 1), (0, .ref m0)]) hx hb dX9_within_34 hl (k := 1) rfl (by rw [ez_3]; rfl) (by decide) rfl (fun ls hl => ?_)
        refine lv_goto (tgt := 10) hx hb dX9_within_37 (by decide) ?_
        exact ih10  z_3 (by omega) (by omega) ls (lv_sub hl [0, 1, 2, 3, 4, 5] rfl)
  exact loop10 (((256 - z_1.toInt).toNat) + 1) z_1 (Nat.lt_succ_self _) (by first | omega | decide +kernel) ls (lv_sub hl [0, 1, 5, 4, 3, 2] rfl)
set_option maxHeartbeats 4000000 in
set_option maxRecDepth 100000 in
theorem k0_X9_sorts (l : Launch) (D : va_G) (cI cJ : ClassId) (m0 : Nat) (a_row : Nat) (a_tape : Nat) (a_number : Nat) (a_read : Nat) (a_readBits : Nat) (a_stands : Nat) (a_parted : Nat) (a_bitsWere : Nat) (a_stood : Nat) (a_chosen : Nat) (a_bestChosen : Nat) (a_often : Nat) (a_sorted : Nat) (a_risen : Nat) (a_risenWays : Nat) (i_thrown : Int32) (i_told : Int32) (i_taped : Int32) (i_at : Int32) (i_to : Int32) (i_many : Int32) (i_readMany : Int32) (i_fewest : Int32) (i_size : Int32) : ctV l yX9_sorts wsX9_sorts ({ frames := 1, cells := 0, slots := 0, locals := 60 } : Room) D (tyIJ cI cJ) [.ref m0, .int 0, .int 0] [(m0, .inr (9, [.int i_thrown, .int i_told, .ref a_row, .ref a_tape, .int i_taped, .int i_at, .int i_to, .int i_many, .ref a_number, .ref a_read, .int i_readMany, .ref a_readBits, .ref a_stands, .ref a_parted, .ref a_bitsWere, .ref a_stood, .ref a_chosen, .ref a_bestChosen, .int i_fewest, .ref a_often, .ref a_sorted, .int i_size, .ref a_risen, .ref a_risenWays])), (a_often, .inl (cI, 512, .inl (fun _ => (0 : Int32))))] (fun (u : va_W) => u = [(m0, .inr (9, [.int i_thrown, .int i_told, .ref a_row, .ref a_tape, .int i_taped, .int i_at, .int i_to, .int i_many, .ref a_number, .ref a_read, .int i_readMany, .ref a_readBits, .ref a_stands, .ref a_parted, .ref a_bitsWere, .ref a_stood, .ref a_chosen, .ref a_bestChosen, .int i_fewest, .ref a_often, .ref a_sorted, .int 0, .ref a_risen, .ref a_risenWays])), (a_often, .inl (cI, 512, .inl (fun _ => (0 : Int32))))]) := by
  refine ctV.of (cc := cX9_sorts) (maxL := 5) (ret := none) (by decide) rfl (Nat.le_of_ble_eq_true rfl) ?_
  intro p e s m below meth c ls A hx hb hr hts hown hml hlocks hname hA hK hN hP hD hS hl
  have hl : lv_has ls 5 [(0, .ref m0), (1, .int 0), (2, .int 0)] := hl
  have hown : s.vm.findClass RX9 = some m.cls := hown
  have hi9 : ∀ w ∈ u_ws RX9 TX9 24, w ∈ wsX9_sorts := by decide +kernel
  have fl172 := hts (.fieldLink RX9 172 "PlaneColumnModel" "size" "I") (by decide +kernel)
  refine lv_aload_n hx hb dX9_sorts_0 rfl (lv_at hl 0 rfl) ?_
  refine lv_iconst (v := 0) hx hb dX9_sorts_1 (by decide +kernel) ?_
  refine lv_iload_n hx hb dX9_sorts_2 rfl (lv_at hl 1 rfl) ?_
  refine lv_iload_n hx hb dX9_sorts_3 rfl (lv_at hl 2 rfl) ?_
  refine my_goV (wr := []) hP hD hS hA [0, 1] [] rfl rfl (by decide) (by decide) (my_cV (As := [.int 0, .int 0, .int 0]) (rest := []) (ci := 9) (wc := [(m0, .inr (9, [.int i_thrown, .int i_told, .ref a_row, .ref a_tape, .int i_taped, .int i_at, .int i_to, .int i_many, .ref a_number, .ref a_read, .int i_readMany, .ref a_readBits, .ref a_stands, .ref a_parted, .ref a_bitsWere, .ref a_stood, .ref a_chosen, .ref a_bestChosen, .int i_fewest, .ref a_often, .ref a_sorted, .int i_size, .ref a_risen, .ref a_risenWays])), (a_often, .inl (cI, 512, .inl (fun _ => (0 : Int32))))]) ⟨hx, hb, hml, hown, hts⟩ (cwV 3 hts gX9_sorts_X9_counts rfl rfl rfl (by decide +kernel) ⟨Nat.le_of_ble_eq_true rfl, Nat.le_of_ble_eq_true rfl⟩) hN hK hP hD [0, 1] rfl (by decide) rfl 0 rfl rfl rfl rfl hl.1 rfl (Nat.le_of_ble_eq_true rfl) dX9_sorts_4 ⟨Nat.le_of_ble_eq_true rfl, Nat.le_of_ble_eq_true rfl⟩  ((k0_X9_counts l D cI cJ m0 a_row a_tape a_number a_read a_readBits a_stands a_parted a_bitsWere a_stood a_chosen a_bestChosen a_often a_sorted a_risen a_risenWays i_thrown i_told i_taped i_at i_to i_many i_readMany i_fewest i_size) _)) (fun u H locs hp hP hD hS => ?_)
  obtain rfl := hp
  have hP : va_P D vwCl [(m0, .inr (9, [.int i_thrown, .int i_told, .ref a_row, .ref a_tape, .int i_taped, .int i_at, .int i_to, .int i_many, .ref a_number, .ref a_read, .int i_readMany, .ref a_readBits, .ref a_stands, .ref a_parted, .ref a_bitsWere, .ref a_stood, .ref a_chosen, .ref a_bestChosen, .int i_fewest, .ref a_often, .ref a_sorted, .int i_size, .ref a_risen, .ref a_risenWays])), (a_often, .inl (cI, 512, .inl (fun _ => (0 : Int32))))] H := hP
  have hD : va_D A [(m0, .inr (9, [.int i_thrown, .int i_told, .ref a_row, .ref a_tape, .int i_taped, .int i_at, .int i_to, .int i_many, .ref a_number, .ref a_read, .int i_readMany, .ref a_readBits, .ref a_stands, .ref a_parted, .ref a_bitsWere, .ref a_stood, .ref a_chosen, .ref a_bestChosen, .int i_fewest, .ref a_often, .ref a_sorted, .int i_size, .ref a_risen, .ref a_risenWays])), (a_often, .inl (cI, 512, .inl (fun _ => (0 : Int32))))] := hD
  refine lv_aload_n hx hb dX9_sorts_7 rfl (lv_at hl 0 rfl) ?_
  refine lv_iconst (v := 0) hx hb dX9_sorts_8 (by decide +kernel) ?_
  refine va_put (ci := 9) (v := .int 0) (ty := (.int)) (C := RX9) (T := TX9) (N := 24) hx hb hts hi9 tyX9 tyX9_ok nmX9 hown hK hP hD hS 0 rfl rfl 21 (by decide) fl172 (fun _ h9 => h9) rfl (by decide +kernel) rfl rfl (Nat.le_of_ble_eq_true rfl) dX9_sorts_9 (fun H locs hP hD hS => ?_)
  have hP : va_P D vwCl [(m0, .inr (9, [.int i_thrown, .int i_told, .ref a_row, .ref a_tape, .int i_taped, .int i_at, .int i_to, .int i_many, .ref a_number, .ref a_read, .int i_readMany, .ref a_readBits, .ref a_stands, .ref a_parted, .ref a_bitsWere, .ref a_stood, .ref a_chosen, .ref a_bestChosen, .int i_fewest, .ref a_often, .ref a_sorted, .int 0, .ref a_risen, .ref a_risenWays])), (a_often, .inl (cI, 512, .inl (fun _ => (0 : Int32))))] H := hP
  have hD : va_D A [(m0, .inr (9, [.int i_thrown, .int i_told, .ref a_row, .ref a_tape, .int i_taped, .int i_at, .int i_to, .int i_many, .ref a_number, .ref a_read, .int i_readMany, .ref a_readBits, .ref a_stands, .ref a_parted, .ref a_bitsWere, .ref a_stood, .ref a_chosen, .ref a_bestChosen, .int i_fewest, .ref a_often, .ref a_sorted, .int 0, .ref a_risen, .ref a_risenWays])), (a_often, .inl (cI, 512, .inl (fun _ => (0 : Int32))))] := hD
  refine lv_iconst (v := 0) hx hb dX9_sorts_12 (by decide +kernel) ?_
  refine lv_istore_n (lv' := [(3, .int 0), (0, .ref m0), (1, .int 0), (2, .int 0)]) hx hb dX9_sorts_13 rfl hl (by decide) rfl (fun ls hl => ?_)
  have loop14 : ∀ (n9 : Nat) (k : Nat), 256 - k < n9 → (k ≤ 256) → ∀ (H : Heap) (locs : List Loc) (ls : Array Slot), va_P D vwCl [(m0, .inr (9, [.int i_thrown, .int i_told, .ref a_row, .ref a_tape, .int i_taped, .int i_at, .int i_to, .int i_many, .ref a_number, .ref a_read, .int i_readMany, .ref a_readBits, .ref a_stands, .ref a_parted, .ref a_bitsWere, .ref a_stood, .ref a_chosen, .ref a_bestChosen, .int i_fewest, .ref a_often, .ref a_sorted, .int 0, .ref a_risen, .ref a_risenWays])), (a_often, .inl (cI, 512, .inl (fun _ => (0 : Int32))))] H → va_D A [(m0, .inr (9, [.int i_thrown, .int i_told, .ref a_row, .ref a_tape, .int i_taped, .int i_at, .int i_to, .int i_many, .ref a_number, .ref a_read, .int i_readMany, .ref a_readBits, .ref a_stands, .ref a_parted, .ref a_bitsWere, .ref a_stood, .ref a_chosen, .ref a_bestChosen, .int i_fewest, .ref a_often, .ref a_sorted, .int 0, .ref a_risen, .ref a_risenWays])), (a_often, .inl (cI, 512, .inl (fun _ => (0 : Int32))))] → va_S A s.heap H locs → lv_has ls 5 [(3, .int (nI k)), (0, .ref m0)] → W p l e ({ frames := 1, cells := 0, slots := 0, locals := 60 } : Room) s m [.ref m0, .int 0, .int 0].toArray below meth c H locs 0 0 (MQ below (va_Qv (fun (u : va_W) => u = [(m0, .inr (9, [.int i_thrown, .int i_told, .ref a_row, .ref a_tape, .int i_taped, .int i_at, .int i_to, .int i_many, .ref a_number, .ref a_read, .int i_readMany, .ref a_readBits, .ref a_stands, .ref a_parted, .ref a_bitsWere, .ref a_stood, .ref a_chosen, .ref a_bestChosen, .int i_fewest, .ref a_often, .ref a_sorted, .int 0, .ref a_risen, .ref a_risenWays])), (a_often, .inl (cI, 512, .inl (fun _ => (0 : Int32))))]) (my_B D (tyIJ cI cJ) A) A) [.ref m0, .int 0, .int 0].toArray s 0 0 A) (F0 m 14 ls []) := by
    intro n9
    induction n9 with
    | zero =>
      intro k hn9
      exact absurd hn9 (Nat.not_lt_zero _)
    | succ n9 ih14 =>
      intro k hn9 hk H locs ls hP hD hS hl
      refine lv_iload_n hx hb dX9_sorts_14 rfl (lv_at hl 0 rfl) ?_
      refine lv_sipush (v := 256) hx hb dX9_sorts_15 (by decide +kernel) ?_
      refine lv_icmp_ge (tgt := 67) hx hb dX9_sorts_18 (by decide) (fun c18 => ?_) (fun c18 => ?_)
      ·
        have d18 : ((k : Nat) : Int) ≥ (256 : Int) := my_ge c18 (nI_toInt (by omega)) (by decide +kernel)
        exact my_retV hx hb hr hlocks hK hS [(m0, .inr (9, [.int i_thrown, .int i_told, .ref a_row, .ref a_tape, .int i_taped, .int i_at, .int i_to, .int i_many, .ref a_number, .ref a_read, .int i_readMany, .ref a_readBits, .ref a_stands, .ref a_parted, .ref a_bitsWere, .ref a_stood, .ref a_chosen, .ref a_bestChosen, .int i_fewest, .ref a_often, .ref a_sorted, .int 0, .ref a_risen, .ref a_risenWays])), (a_often, .inl (cI, 512, .inl (fun _ => (0 : Int32))))] (hP.sub [0, 1] rfl) (hD.sub [0, 1] (by decide) rfl) (rfl) dX9_sorts_67
      ·
        have d18 : ((k : Nat) : Int) < (256 : Int) := my_nge c18 (nI_toInt (by omega)) (by decide +kernel)
        refine lv_iconst (v := 0) hx hb dX9_sorts_21 (by decide +kernel) ?_
        refine lv_istore (lv' := [(4, .int 0), (3, .int (nI k)), (0, .ref m0)]) hx hb dX9_sorts_22 hl (by decide) rfl (fun ls hl => ?_)
        refine lv_iload hx hb dX9_sorts_24 (lv_at hl 0 rfl) ?_
        refine lv_aload_n hx hb dX9_sorts_26 rfl (lv_at hl 2 rfl) ?_
        refine lv_iconst (v := 0) hx hb dX9_sorts_27 (by decide +kernel) ?_
        refine lv_iload_n hx hb dX9_sorts_28 rfl (lv_at hl 1 rfl) ?_
        refine my_gpI (my_pV (As := [.int 0, .int (nI k)]) (rest := [.int 0]) (ci := 9) ⟨hx, hb, hml, hown, hts⟩ (cwV 2 hts gX9_sorts_X9_times rfl rfl rfl (by decide +kernel) ⟨Nat.le_of_ble_eq_true rfl, Nat.le_of_ble_eq_true rfl⟩) hN hK hP [0, 1] rfl 0 rfl rfl rfl rfl hl.1 rfl (Nat.le_of_ble_eq_true rfl) dX9_sorts_29 ⟨Nat.le_of_ble_eq_true rfl, Nat.le_of_ble_eq_true rfl⟩  (k0_X9_times l D cI cJ m0 a_row a_tape a_number a_read a_readBits a_stands a_parted a_bitsWere a_stood a_chosen a_bestChosen a_often a_sorted a_risen a_risenWays i_thrown i_told i_taped i_at i_to i_many i_readMany i_fewest (0 : Int32) (nI k) (by rw [nI_toInt (by omega)]; omega) (by rw [nI_toInt (by omega)]; omega))) (fun r hp => ?_)
        obtain rfl := hp
        refine lv_icmp_ge (tgt := 61) hx hb dX9_sorts_32 (by decide) (fun c32 => ?_) (fun c32 => ?_)
        ·
          refine lv_iinc (v := nI (k + 1)) (lv' := [(3, .int (nI (k + 1))), (4, .int 0), (0, .ref m0)]) hx hb dX9_sorts_61 hl (k := 1) rfl (my_incN k 1 (by decide +kernel)) (by decide) rfl (fun ls hl => ?_)
          refine lv_goto (tgt := 14) hx hb dX9_sorts_64 (by decide) ?_
          exact ih14  (k + 1) (by omega) (by omega) _ _ ls (hP.sub [0, 1] rfl) (hD.sub [0, 1] (by decide) rfl) hS (lv_sub hl [0, 2] rfl)
        ·
          exact absurd c32 (by decide +kernel)
  exact loop14 ((256 - 0) + 1) 0 (Nat.lt_succ_self _) (by first | omega | decide +kernel) _ _ ls (hP.sub [0, 1] rfl) (hD.sub [0, 1] (by decide) rfl) hS (lv_sub hl [0, 1] rfl)
set_option maxHeartbeats 4000000 in
set_option maxRecDepth 100000 in
theorem k0_X9_visits (l : Launch) (D : va_G) (cI cJ : ClassId) (m0 : Nat) (a_row : Nat) (a_tape : Nat) (a_number : Nat) (a_read : Nat) (a_readBits : Nat) (a_stands : Nat) (a_parted : Nat) (a_bitsWere : Nat) (a_stood : Nat) (a_chosen : Nat) (a_bestChosen : Nat) (a_often : Nat) (a_sorted : Nat) (a_risen : Nat) (a_risenWays : Nat) (i_thrown : Int32) (i_told : Int32) (i_taped : Int32) (i_at : Int32) (i_to : Int32) (i_many : Int32) (i_readMany : Int32) (i_fewest : Int32) (i_size : Int32) (a9 : Int32) (b9 : Int32) : cpI l yX9_visits wsX9_visits ({ frames := 2, cells := 0, slots := 0, locals := 120 } : Room) D (tyIJ cI cJ) [.ref m0, .int 0, .int 256, .int a9, .int b9] [(m0, .inr (9, [.int i_thrown, .int i_told, .ref a_row, .ref a_tape, .int i_taped, .int i_at, .int i_to, .int i_many, .ref a_number, .ref a_read, .int i_readMany, .ref a_readBits, .ref a_stands, .ref a_parted, .ref a_bitsWere, .ref a_stood, .ref a_chosen, .ref a_bestChosen, .int i_fewest, .ref a_often, .ref a_sorted, .int i_size, .ref a_risen, .ref a_risenWays])), (a_often, .inl (cI, 512, .inl (fun _ => (0 : Int32))))] (fun (r : Int32) => r = 0) := by
  refine cpI.of (cc := cX9_visits) (maxL := 6) (ret := (some .int)) (by decide) rfl (Nat.le_of_ble_eq_true rfl) ?_
  intro p e s m below meth c ls hx hb hr hts hown hml hlocks hname hK hN hP hl
  have hl : lv_has ls 6 [(0, .ref m0), (1, .int 0), (2, .int 256), (3, .int a9), (4, .int b9)] := hl
  have hown : s.vm.findClass RX9 = some m.cls := hown
  refine lv_iload_n hx hb dX9_visits_0 rfl (lv_at hl 1 rfl) ?_
  refine lv_iload_n hx hb dX9_visits_1 rfl (lv_at hl 2 rfl) ?_
  refine lv_iadd hx hb dX9_visits_2 ?_
  refine my_eqi (y := 256) (by decide +kernel) ?_
  refine lv_iconst (v := 1) hx hb dX9_visits_3 (by decide +kernel) ?_
  refine lv_isub hx hb dX9_visits_4 ?_
  refine my_eqi (y := 255) (by decide +kernel) ?_
  refine lv_istore (lv' := [(5, .int 255), (0, .ref m0), (1, .int 0), (2, .int 256), (3, .int a9), (4, .int b9)]) hx hb dX9_visits_5 hl (by decide) rfl (fun ls hl => ?_)
  refine lv_iload_n hx hb dX9_visits_7 rfl (lv_at hl 2 rfl) ?_
  refine lv_iload hx hb dX9_visits_8 (lv_at hl 5 rfl) ?_
  refine lv_icmp_gt (tgt := 30) hx hb dX9_visits_10 (by decide) (fun c10 => ?_) (fun c10 => ?_)
  ·
    have d10 : (0 : Int) > b9.toInt := my_gt c10 (by decide +kernel) rfl
    refine lv_iconst (v := 0) hx hb dX9_visits_30 (by decide +kernel) ?_
    exact my_rpI hx hb hr hlocks (rfl) dX9_visits_31
  ·
    have d10 : (0 : Int) ≤ b9.toInt := my_ngt c10 (by decide +kernel) rfl
    refine lv_iload hx hb dX9_visits_13 (lv_at hl 0 rfl) ?_
    refine lv_iload_n hx hb dX9_visits_15 rfl (lv_at hl 4 rfl) ?_
    refine lv_icmp_lt (tgt := 30) hx hb dX9_visits_16 (by decide) (fun c16 => ?_) (fun c16 => ?_)
    ·
      have d16 : (255 : Int) < a9.toInt := my_lt c16 (by decide +kernel) rfl
      refine lv_iconst (v := 0) hx hb dX9_visits_30 (by decide +kernel) ?_
      exact my_rpI hx hb hr hlocks (rfl) dX9_visits_31
    ·
      have d16 : (255 : Int) ≥ a9.toInt := my_nlt c16 (by decide +kernel) rfl
      refine lv_aload_n hx hb dX9_visits_19 rfl (lv_at hl 1 rfl) ?_
      refine lv_iconst (v := 0) hx hb dX9_visits_20 (by decide +kernel) ?_
      refine lv_iload_n hx hb dX9_visits_21 rfl (lv_at hl 2 rfl) ?_
      refine lv_iload hx hb dX9_visits_22 (lv_at hl 0 rfl) ?_
      refine my_gpI (my_pV (As := [.int 0, .int 0, .int 255]) (rest := []) (ci := 9) ⟨hx, hb, hml, hown, hts⟩ (cwV 3 hts gX9_visits_X9_within rfl rfl rfl (by decide +kernel) ⟨Nat.le_of_ble_eq_true rfl, Nat.le_of_ble_eq_true rfl⟩) hN hK hP [0, 1] rfl 0 rfl rfl rfl rfl hl.1 rfl (Nat.le_of_ble_eq_true rfl) dX9_visits_24 ⟨Nat.le_of_ble_eq_true rfl, Nat.le_of_ble_eq_true rfl⟩  (k0_X9_within l D cI cJ m0 a_row a_tape a_number a_read a_readBits a_stands a_parted a_bitsWere a_stood a_chosen a_bestChosen a_often a_sorted a_risen a_risenWays i_thrown i_told i_taped i_at i_to i_many i_readMany i_fewest i_size (0 : Int32) (255 : Int32))) (fun r hp => ?_)
      obtain rfl := hp
      refine lv_if_ne (tgt := 32) hx hb dX9_visits_27 (by decide) (fun c27 => ?_) (fun c27 => ?_)
      ·
        exact absurd c27 (by decide +kernel)
      ·
        refine lv_iconst (v := 0) hx hb dX9_visits_30 (by decide +kernel) ?_
        exact my_rpI hx hb hr hlocks (rfl) dX9_visits_31
set_option maxHeartbeats 4000000 in
set_option maxRecDepth 100000 in
theorem k0_X9_nodes (l : Launch) (D : va_G) (cI cJ : ClassId) (m0 : Nat) (a_row : Nat) (a_tape : Nat) (a_number : Nat) (a_read : Nat) (a_readBits : Nat) (a_stands : Nat) (a_parted : Nat) (a_bitsWere : Nat) (a_stood : Nat) (a_chosen : Nat) (a_bestChosen : Nat) (a_often : Nat) (a_sorted : Nat) (a_risen : Nat) (a_risenWays : Nat) (i_thrown : Int32) (i_told : Int32) (i_taped : Int32) (i_at : Int32) (i_to : Int32) (i_many : Int32) (i_readMany : Int32) (i_fewest : Int32) (i_size : Int32) (m9 : Int32) (bo9 : Int32) (hm : 1 ≤ m9.toInt) : cpI l yX9_nodes wsX9_nodes ({ frames := 2, cells := 0, slots := 0, locals := 120 } : Room) D (tyIJ cI cJ) [.ref m0, .int m9, .int bo9] [(m0, .inr (9, [.int i_thrown, .int i_told, .ref a_row, .ref a_tape, .int i_taped, .int i_at, .int i_to, .int i_many, .ref a_number, .ref a_read, .int i_readMany, .ref a_readBits, .ref a_stands, .ref a_parted, .ref a_bitsWere, .ref a_stood, .ref a_chosen, .ref a_bestChosen, .int i_fewest, .ref a_often, .ref a_sorted, .int i_size, .ref a_risen, .ref a_risenWays])), (a_often, .inl (cI, 512, .inl (fun _ => (0 : Int32))))] (fun (r : Int32) => r = 0) := by
  refine cpI.of (cc := cX9_nodes) (maxL := 7) (ret := (some .int)) (by decide) rfl (Nat.le_of_ble_eq_true rfl) ?_
  intro p e s m below meth c ls hx hb hr hts hown hml hlocks hname hK hN hP hl
  have hl : lv_has ls 7 [(0, .ref m0), (1, .int m9), (2, .int bo9)] := hl
  have hown : s.vm.findClass RX9 = some m.cls := hown
  refine lv_iconst (v := 0) hx hb dX9_nodes_0 (by decide +kernel) ?_
  refine lv_istore_n (lv' := [(3, .int 0), (0, .ref m0), (1, .int m9), (2, .int bo9)]) hx hb dX9_nodes_1 rfl hl (by decide) rfl (fun ls hl => ?_)
  refine lv_sipush (v := 256) hx hb dX9_nodes_2 (by decide +kernel) ?_
  refine lv_istore (lv' := [(4, .int 256), (3, .int 0), (0, .ref m0), (1, .int m9), (2, .int bo9)]) hx hb dX9_nodes_5 hl (by decide) rfl (fun ls hl => ?_)
  refine lv_iload hx hb dX9_nodes_7 (lv_at hl 0 rfl) ?_
  refine lv_if_le (tgt := 97) hx hb dX9_nodes_9 (by decide) (fun c9 => ?_) (fun c9 => ?_)
  ·
    exact absurd c9 (by decide +kernel)
  ·
    refine lv_iconst (v := 0) hx hb dX9_nodes_12 (by decide +kernel) ?_
    refine lv_istore (lv' := [(5, .int 0), (4, .int 256), (3, .int 0), (0, .ref m0), (1, .int m9), (2, .int bo9)]) hx hb dX9_nodes_13 hl (by decide) rfl (fun ls hl => ?_)
    have loop15 : ∀ (n9 : Nat) (k : Nat), 256 - k < n9 → (k ≤ 512) → ∀ (ls : Array Slot), lv_has ls 7 [(5, .int (nI k)), (4, .int 256), (3, .int 0), (2, .int bo9), (1, .int m9), (0, .ref m0)] → W p l e ({ frames := 2, cells := 0, slots := 0, locals := 120 } : Room) s m [.ref m0, .int m9, .int bo9].toArray below meth c s.heap [] 0 0 (MQ below (vp_Si (fun (r : Int32) => r = 0)) [.ref m0, .int m9, .int bo9].toArray s 0 0 (fun _ => False)) (F0 m 15 ls []) := by
      intro n9
      induction n9 with
      | zero =>
        intro k hn9
        exact absurd hn9 (Nat.not_lt_zero _)
      | succ n9 ih15 =>
        intro k hn9 hk ls hl
        refine lv_iload hx hb dX9_nodes_15 (lv_at hl 0 rfl) ?_
        refine lv_sipush (v := 256) hx hb dX9_nodes_17 (by decide +kernel) ?_
        refine lv_icmp_ge (tgt := 88) hx hb dX9_nodes_20 (by decide) (fun c20 => ?_) (fun c20 => ?_)
        ·
          have d20 : ((k : Nat) : Int) ≥ (256 : Int) := my_ge c20 (nI_toInt (by omega)) (by decide +kernel)
          refine lv_iload hx hb dX9_nodes_88 (lv_at hl 1 rfl) ?_
          refine lv_iconst (v := 2) hx hb dX9_nodes_90 (by decide +kernel) ?_
          refine lv_idiv hx hb dX9_nodes_91 (by decide +kernel) ?_
          refine my_eqi (y := 128) (by decide +kernel) ?_
          refine lv_istore (lv' := [(4, .int 128), (5, .int (nI k)), (3, .int 0), (2, .int bo9), (1, .int m9), (0, .ref m0)]) hx hb dX9_nodes_92 hl (by decide) rfl (fun ls hl => ?_)
          refine lv_goto (tgt := 7) hx hb dX9_nodes_94 (by decide) ?_
          refine lv_iload hx hb dX9_nodes_7 (lv_at hl 0 rfl) ?_
          refine lv_if_le (tgt := 97) hx hb dX9_nodes_9 (by decide) (fun c9 => ?_) (fun c9 => ?_)
          ·
            exact absurd c9 (by decide +kernel)
          ·
            refine lv_iconst (v := 0) hx hb dX9_nodes_12 (by decide +kernel) ?_
            refine lv_istore (lv' := [(5, .int 0), (4, .int 128), (3, .int 0), (2, .int bo9), (1, .int m9), (0, .ref m0)]) hx hb dX9_nodes_13 hl (by decide) rfl (fun ls hl => ?_)
            have loop15 : ∀ (n9 : Nat) (k : Nat), 256 - k < n9 → (k ≤ 512) → ∀ (ls : Array Slot), lv_has ls 7 [(5, .int (nI k)), (4, .int 128), (3, .int 0), (2, .int bo9), (1, .int m9), (0, .ref m0)] → W p l e ({ frames := 2, cells := 0, slots := 0, locals := 120 } : Room) s m [.ref m0, .int m9, .int bo9].toArray below meth c s.heap [] 0 0 (MQ below (vp_Si (fun (r : Int32) => r = 0)) [.ref m0, .int m9, .int bo9].toArray s 0 0 (fun _ => False)) (F0 m 15 ls []) := by
              intro n9
              induction n9 with
              | zero =>
                intro k hn9
                exact absurd hn9 (Nat.not_lt_zero _)
              | succ n9 ih15 =>
                intro k hn9 hk ls hl
                refine lv_iload hx hb dX9_nodes_15 (lv_at hl 0 rfl) ?_
                refine lv_sipush (v := 256) hx hb dX9_nodes_17 (by decide +kernel) ?_
                refine lv_icmp_ge (tgt := 88) hx hb dX9_nodes_20 (by decide) (fun c20 => ?_) (fun c20 => ?_)
                ·
                  have d20 : ((k : Nat) : Int) ≥ (256 : Int) := my_ge c20 (nI_toInt (by omega)) (by decide +kernel)
                  refine lv_iload hx hb dX9_nodes_88 (lv_at hl 1 rfl) ?_
                  refine lv_iconst (v := 2) hx hb dX9_nodes_90 (by decide +kernel) ?_
                  refine lv_idiv hx hb dX9_nodes_91 (by decide +kernel) ?_
                  refine my_eqi (y := 64) (by decide +kernel) ?_
                  refine lv_istore (lv' := [(4, .int 64), (5, .int (nI k)), (3, .int 0), (2, .int bo9), (1, .int m9), (0, .ref m0)]) hx hb dX9_nodes_92 hl (by decide) rfl (fun ls hl => ?_)
                  refine lv_goto (tgt := 7) hx hb dX9_nodes_94 (by decide) ?_
                  refine lv_iload hx hb dX9_nodes_7 (lv_at hl 0 rfl) ?_
                  refine lv_if_le (tgt := 97) hx hb dX9_nodes_9 (by decide) (fun c9 => ?_) (fun c9 => ?_)
                  ·
                    exact absurd c9 (by decide +kernel)
                  ·
                    refine lv_iconst (v := 0) hx hb dX9_nodes_12 (by decide +kernel) ?_
                    refine lv_istore (lv' := [(5, .int 0), (4, .int 64), (3, .int 0), (2, .int bo9), (1, .int m9), (0, .ref m0)]) hx hb dX9_nodes_13 hl (by decide) rfl (fun ls hl => ?_)
                    have loop15 : ∀ (n9 : Nat) (k : Nat), 256 - k < n9 → (k ≤ 512) → ∀ (ls : Array Slot), lv_has ls 7 [(5, .int (nI k)), (4, .int 64), (3, .int 0), (2, .int bo9), (1, .int m9), (0, .ref m0)] → W p l e ({ frames := 2, cells := 0, slots := 0, locals := 120 } : Room) s m [.ref m0, .int m9, .int bo9].toArray below meth c s.heap [] 0 0 (MQ below (vp_Si (fun (r : Int32) => r = 0)) [.ref m0, .int m9, .int bo9].toArray s 0 0 (fun _ => False)) (F0 m 15 ls []) := by
                      intro n9
                      induction n9 with
                      | zero =>
                        intro k hn9
                        exact absurd hn9 (Nat.not_lt_zero _)
                      | succ n9 ih15 =>
                        intro k hn9 hk ls hl
                        refine lv_iload hx hb dX9_nodes_15 (lv_at hl 0 rfl) ?_
                        refine lv_sipush (v := 256) hx hb dX9_nodes_17 (by decide +kernel) ?_
                        refine lv_icmp_ge (tgt := 88) hx hb dX9_nodes_20 (by decide) (fun c20 => ?_) (fun c20 => ?_)
                        ·
                          have d20 : ((k : Nat) : Int) ≥ (256 : Int) := my_ge c20 (nI_toInt (by omega)) (by decide +kernel)
                          refine lv_iload hx hb dX9_nodes_88 (lv_at hl 1 rfl) ?_
                          refine lv_iconst (v := 2) hx hb dX9_nodes_90 (by decide +kernel) ?_
                          refine lv_idiv hx hb dX9_nodes_91 (by decide +kernel) ?_
                          refine my_eqi (y := 32) (by decide +kernel) ?_
                          refine lv_istore (lv' := [(4, .int 32), (5, .int (nI k)), (3, .int 0), (2, .int bo9), (1, .int m9), (0, .ref m0)]) hx hb dX9_nodes_92 hl (by decide) rfl (fun ls hl => ?_)
                          refine lv_goto (tgt := 7) hx hb dX9_nodes_94 (by decide) ?_
                          refine lv_iload hx hb dX9_nodes_7 (lv_at hl 0 rfl) ?_
                          refine lv_if_le (tgt := 97) hx hb dX9_nodes_9 (by decide) (fun c9 => ?_) (fun c9 => ?_)
                          ·
                            exact absurd c9 (by decide +kernel)
                          ·
                            refine lv_iconst (v := 0) hx hb dX9_nodes_12 (by decide +kernel) ?_
                            refine lv_istore (lv' := [(5, .int 0), (4, .int 32), (3, .int 0), (2, .int bo9), (1, .int m9), (0, .ref m0)]) hx hb dX9_nodes_13 hl (by decide) rfl (fun ls hl => ?_)
                            have loop15 : ∀ (n9 : Nat) (k : Nat), 256 - k < n9 → (k ≤ 512) → ∀ (ls : Array Slot), lv_has ls 7 [(5, .int (nI k)), (4, .int 32), (3, .int 0), (2, .int bo9), (1, .int m9), (0, .ref m0)] → W p l e ({ frames := 2, cells := 0, slots := 0, locals := 120 } : Room) s m [.ref m0, .int m9, .int bo9].toArray below meth c s.heap [] 0 0 (MQ below (vp_Si (fun (r : Int32) => r = 0)) [.ref m0, .int m9, .int bo9].toArray s 0 0 (fun _ => False)) (F0 m 15 ls []) := by
                              intro n9
                              induction n9 with
                              | zero =>
                                intro k hn9
                                exact absurd hn9 (Nat.not_lt_zero _)
                              | succ n9 ih15 =>
                                intro k hn9 hk ls hl
                                refine lv_iload hx hb dX9_nodes_15 (lv_at hl 0 rfl) ?_
                                refine lv_sipush (v := 256) hx hb dX9_nodes_17 (by decide +kernel) ?_
                                refine lv_icmp_ge (tgt := 88) hx hb dX9_nodes_20 (by decide) (fun c20 => ?_) (fun c20 => ?_)
                                ·
                                  have d20 : ((k : Nat) : Int) ≥ (256 : Int) := my_ge c20 (nI_toInt (by omega)) (by decide +kernel)
                                  refine lv_iload hx hb dX9_nodes_88 (lv_at hl 1 rfl) ?_
                                  refine lv_iconst (v := 2) hx hb dX9_nodes_90 (by decide +kernel) ?_
                                  refine lv_idiv hx hb dX9_nodes_91 (by decide +kernel) ?_
                                  refine my_eqi (y := 16) (by decide +kernel) ?_
                                  refine lv_istore (lv' := [(4, .int 16), (5, .int (nI k)), (3, .int 0), (2, .int bo9), (1, .int m9), (0, .ref m0)]) hx hb dX9_nodes_92 hl (by decide) rfl (fun ls hl => ?_)
                                  refine lv_goto (tgt := 7) hx hb dX9_nodes_94 (by decide) ?_
                                  refine lv_iload hx hb dX9_nodes_7 (lv_at hl 0 rfl) ?_
                                  refine lv_if_le (tgt := 97) hx hb dX9_nodes_9 (by decide) (fun c9 => ?_) (fun c9 => ?_)
                                  ·
                                    exact absurd c9 (by decide +kernel)
                                  ·
                                    refine lv_iconst (v := 0) hx hb dX9_nodes_12 (by decide +kernel) ?_
                                    refine lv_istore (lv' := [(5, .int 0), (4, .int 16), (3, .int 0), (2, .int bo9), (1, .int m9), (0, .ref m0)]) hx hb dX9_nodes_13 hl (by decide) rfl (fun ls hl => ?_)
                                    have loop15 : ∀ (n9 : Nat) (k : Nat), 256 - k < n9 → (k ≤ 512) → ∀ (ls : Array Slot), lv_has ls 7 [(5, .int (nI k)), (4, .int 16), (3, .int 0), (2, .int bo9), (1, .int m9), (0, .ref m0)] → W p l e ({ frames := 2, cells := 0, slots := 0, locals := 120 } : Room) s m [.ref m0, .int m9, .int bo9].toArray below meth c s.heap [] 0 0 (MQ below (vp_Si (fun (r : Int32) => r = 0)) [.ref m0, .int m9, .int bo9].toArray s 0 0 (fun _ => False)) (F0 m 15 ls []) := by
                                      intro n9
                                      induction n9 with
                                      | zero =>
                                        intro k hn9
                                        exact absurd hn9 (Nat.not_lt_zero _)
                                      | succ n9 ih15 =>
                                        intro k hn9 hk ls hl
                                        refine lv_iload hx hb dX9_nodes_15 (lv_at hl 0 rfl) ?_
                                        refine lv_sipush (v := 256) hx hb dX9_nodes_17 (by decide +kernel) ?_
                                        refine lv_icmp_ge (tgt := 88) hx hb dX9_nodes_20 (by decide) (fun c20 => ?_) (fun c20 => ?_)
                                        ·
                                          have d20 : ((k : Nat) : Int) ≥ (256 : Int) := my_ge c20 (nI_toInt (by omega)) (by decide +kernel)
                                          refine lv_iload hx hb dX9_nodes_88 (lv_at hl 1 rfl) ?_
                                          refine lv_iconst (v := 2) hx hb dX9_nodes_90 (by decide +kernel) ?_
                                          refine lv_idiv hx hb dX9_nodes_91 (by decide +kernel) ?_
                                          refine my_eqi (y := 8) (by decide +kernel) ?_
                                          refine lv_istore (lv' := [(4, .int 8), (5, .int (nI k)), (3, .int 0), (2, .int bo9), (1, .int m9), (0, .ref m0)]) hx hb dX9_nodes_92 hl (by decide) rfl (fun ls hl => ?_)
                                          refine lv_goto (tgt := 7) hx hb dX9_nodes_94 (by decide) ?_
                                          refine lv_iload hx hb dX9_nodes_7 (lv_at hl 0 rfl) ?_
                                          refine lv_if_le (tgt := 97) hx hb dX9_nodes_9 (by decide) (fun c9 => ?_) (fun c9 => ?_)
                                          ·
                                            exact absurd c9 (by decide +kernel)
                                          ·
                                            refine lv_iconst (v := 0) hx hb dX9_nodes_12 (by decide +kernel) ?_
                                            refine lv_istore (lv' := [(5, .int 0), (4, .int 8), (3, .int 0), (2, .int bo9), (1, .int m9), (0, .ref m0)]) hx hb dX9_nodes_13 hl (by decide) rfl (fun ls hl => ?_)
                                            have loop15 : ∀ (n9 : Nat) (k : Nat), 256 - k < n9 → (k ≤ 512) → ∀ (ls : Array Slot), lv_has ls 7 [(5, .int (nI k)), (4, .int 8), (3, .int 0), (2, .int bo9), (1, .int m9), (0, .ref m0)] → W p l e ({ frames := 2, cells := 0, slots := 0, locals := 120 } : Room) s m [.ref m0, .int m9, .int bo9].toArray below meth c s.heap [] 0 0 (MQ below (vp_Si (fun (r : Int32) => r = 0)) [.ref m0, .int m9, .int bo9].toArray s 0 0 (fun _ => False)) (F0 m 15 ls []) := by
                                              intro n9
                                              induction n9 with
                                              | zero =>
                                                intro k hn9
                                                exact absurd hn9 (Nat.not_lt_zero _)
                                              | succ n9 ih15 =>
                                                intro k hn9 hk ls hl
                                                refine lv_iload hx hb dX9_nodes_15 (lv_at hl 0 rfl) ?_
                                                refine lv_sipush (v := 256) hx hb dX9_nodes_17 (by decide +kernel) ?_
                                                refine lv_icmp_ge (tgt := 88) hx hb dX9_nodes_20 (by decide) (fun c20 => ?_) (fun c20 => ?_)
                                                ·
                                                  have d20 : ((k : Nat) : Int) ≥ (256 : Int) := my_ge c20 (nI_toInt (by omega)) (by decide +kernel)
                                                  refine lv_iload hx hb dX9_nodes_88 (lv_at hl 1 rfl) ?_
                                                  refine lv_iconst (v := 2) hx hb dX9_nodes_90 (by decide +kernel) ?_
                                                  refine lv_idiv hx hb dX9_nodes_91 (by decide +kernel) ?_
                                                  refine my_eqi (y := 4) (by decide +kernel) ?_
                                                  refine lv_istore (lv' := [(4, .int 4), (5, .int (nI k)), (3, .int 0), (2, .int bo9), (1, .int m9), (0, .ref m0)]) hx hb dX9_nodes_92 hl (by decide) rfl (fun ls hl => ?_)
                                                  refine lv_goto (tgt := 7) hx hb dX9_nodes_94 (by decide) ?_
                                                  refine lv_iload hx hb dX9_nodes_7 (lv_at hl 0 rfl) ?_
                                                  refine lv_if_le (tgt := 97) hx hb dX9_nodes_9 (by decide) (fun c9 => ?_) (fun c9 => ?_)
                                                  ·
                                                    exact absurd c9 (by decide +kernel)
                                                  ·
                                                    refine lv_iconst (v := 0) hx hb dX9_nodes_12 (by decide +kernel) ?_
                                                    refine lv_istore (lv' := [(5, .int 0), (4, .int 4), (3, .int 0), (2, .int bo9), (1, .int m9), (0, .ref m0)]) hx hb dX9_nodes_13 hl (by decide) rfl (fun ls hl => ?_)
                                                    have loop15 : ∀ (n9 : Nat) (k : Nat), 256 - k < n9 → (k ≤ 512) → ∀ (ls : Array Slot), lv_has ls 7 [(5, .int (nI k)), (4, .int 4), (3, .int 0), (2, .int bo9), (1, .int m9), (0, .ref m0)] → W p l e ({ frames := 2, cells := 0, slots := 0, locals := 120 } : Room) s m [.ref m0, .int m9, .int bo9].toArray below meth c s.heap [] 0 0 (MQ below (vp_Si (fun (r : Int32) => r = 0)) [.ref m0, .int m9, .int bo9].toArray s 0 0 (fun _ => False)) (F0 m 15 ls []) := by
                                                      intro n9
                                                      induction n9 with
                                                      | zero =>
                                                        intro k hn9
                                                        exact absurd hn9 (Nat.not_lt_zero _)
                                                      | succ n9 ih15 =>
                                                        intro k hn9 hk ls hl
                                                        refine lv_iload hx hb dX9_nodes_15 (lv_at hl 0 rfl) ?_
                                                        refine lv_sipush (v := 256) hx hb dX9_nodes_17 (by decide +kernel) ?_
                                                        refine lv_icmp_ge (tgt := 88) hx hb dX9_nodes_20 (by decide) (fun c20 => ?_) (fun c20 => ?_)
                                                        ·
                                                          have d20 : ((k : Nat) : Int) ≥ (256 : Int) := my_ge c20 (nI_toInt (by omega)) (by decide +kernel)
                                                          refine lv_iload hx hb dX9_nodes_88 (lv_at hl 1 rfl) ?_
                                                          refine lv_iconst (v := 2) hx hb dX9_nodes_90 (by decide +kernel) ?_
                                                          refine lv_idiv hx hb dX9_nodes_91 (by decide +kernel) ?_
                                                          refine my_eqi (y := 2) (by decide +kernel) ?_
                                                          refine lv_istore (lv' := [(4, .int 2), (5, .int (nI k)), (3, .int 0), (2, .int bo9), (1, .int m9), (0, .ref m0)]) hx hb dX9_nodes_92 hl (by decide) rfl (fun ls hl => ?_)
                                                          refine lv_goto (tgt := 7) hx hb dX9_nodes_94 (by decide) ?_
                                                          refine lv_iload hx hb dX9_nodes_7 (lv_at hl 0 rfl) ?_
                                                          refine lv_if_le (tgt := 97) hx hb dX9_nodes_9 (by decide) (fun c9 => ?_) (fun c9 => ?_)
                                                          ·
                                                            exact absurd c9 (by decide +kernel)
                                                          ·
                                                            refine lv_iconst (v := 0) hx hb dX9_nodes_12 (by decide +kernel) ?_
                                                            refine lv_istore (lv' := [(5, .int 0), (4, .int 2), (3, .int 0), (2, .int bo9), (1, .int m9), (0, .ref m0)]) hx hb dX9_nodes_13 hl (by decide) rfl (fun ls hl => ?_)
                                                            have loop15 : ∀ (n9 : Nat) (k : Nat), 256 - k < n9 → (k ≤ 512) → ∀ (ls : Array Slot), lv_has ls 7 [(5, .int (nI k)), (4, .int 2), (3, .int 0), (2, .int bo9), (1, .int m9), (0, .ref m0)] → W p l e ({ frames := 2, cells := 0, slots := 0, locals := 120 } : Room) s m [.ref m0, .int m9, .int bo9].toArray below meth c s.heap [] 0 0 (MQ below (vp_Si (fun (r : Int32) => r = 0)) [.ref m0, .int m9, .int bo9].toArray s 0 0 (fun _ => False)) (F0 m 15 ls []) := by
                                                              intro n9
                                                              induction n9 with
                                                              | zero =>
                                                                intro k hn9
                                                                exact absurd hn9 (Nat.not_lt_zero _)
                                                              | succ n9 ih15 =>
                                                                intro k hn9 hk ls hl
                                                                refine lv_iload hx hb dX9_nodes_15 (lv_at hl 0 rfl) ?_
                                                                refine lv_sipush (v := 256) hx hb dX9_nodes_17 (by decide +kernel) ?_
                                                                refine lv_icmp_ge (tgt := 88) hx hb dX9_nodes_20 (by decide) (fun c20 => ?_) (fun c20 => ?_)
                                                                ·
                                                                  have d20 : ((k : Nat) : Int) ≥ (256 : Int) := my_ge c20 (nI_toInt (by omega)) (by decide +kernel)
                                                                  refine lv_iload hx hb dX9_nodes_88 (lv_at hl 1 rfl) ?_
                                                                  refine lv_iconst (v := 2) hx hb dX9_nodes_90 (by decide +kernel) ?_
                                                                  refine lv_idiv hx hb dX9_nodes_91 (by decide +kernel) ?_
                                                                  refine my_eqi (y := 1) (by decide +kernel) ?_
                                                                  refine lv_istore (lv' := [(4, .int 1), (5, .int (nI k)), (3, .int 0), (2, .int bo9), (1, .int m9), (0, .ref m0)]) hx hb dX9_nodes_92 hl (by decide) rfl (fun ls hl => ?_)
                                                                  refine lv_goto (tgt := 7) hx hb dX9_nodes_94 (by decide) ?_
                                                                  refine lv_iload hx hb dX9_nodes_7 (lv_at hl 0 rfl) ?_
                                                                  refine lv_if_le (tgt := 97) hx hb dX9_nodes_9 (by decide) (fun c9 => ?_) (fun c9 => ?_)
                                                                  ·
                                                                    exact absurd c9 (by decide +kernel)
                                                                  ·
                                                                    refine lv_iconst (v := 0) hx hb dX9_nodes_12 (by decide +kernel) ?_
                                                                    refine lv_istore (lv' := [(5, .int 0), (4, .int 1), (3, .int 0), (2, .int bo9), (1, .int m9), (0, .ref m0)]) hx hb dX9_nodes_13 hl (by decide) rfl (fun ls hl => ?_)
                                                                    have loop15 : ∀ (n9 : Nat) (k : Nat), 256 - k < n9 → (k ≤ 512) → ∀ (ls : Array Slot), lv_has ls 7 [(5, .int (nI k)), (4, .int 1), (3, .int 0), (2, .int bo9), (1, .int m9), (0, .ref m0)] → W p l e ({ frames := 2, cells := 0, slots := 0, locals := 120 } : Room) s m [.ref m0, .int m9, .int bo9].toArray below meth c s.heap [] 0 0 (MQ below (vp_Si (fun (r : Int32) => r = 0)) [.ref m0, .int m9, .int bo9].toArray s 0 0 (fun _ => False)) (F0 m 15 ls []) := by
                                                                      intro n9
                                                                      induction n9 with
                                                                      | zero =>
                                                                        intro k hn9
                                                                        exact absurd hn9 (Nat.not_lt_zero _)
                                                                      | succ n9 ih15 =>
                                                                        intro k hn9 hk ls hl
                                                                        refine lv_iload hx hb dX9_nodes_15 (lv_at hl 0 rfl) ?_
                                                                        refine lv_sipush (v := 256) hx hb dX9_nodes_17 (by decide +kernel) ?_
                                                                        refine lv_icmp_ge (tgt := 88) hx hb dX9_nodes_20 (by decide) (fun c20 => ?_) (fun c20 => ?_)
                                                                        ·
                                                                          have d20 : ((k : Nat) : Int) ≥ (256 : Int) := my_ge c20 (nI_toInt (by omega)) (by decide +kernel)
                                                                          refine lv_iload hx hb dX9_nodes_88 (lv_at hl 1 rfl) ?_
                                                                          refine lv_iconst (v := 2) hx hb dX9_nodes_90 (by decide +kernel) ?_
                                                                          refine lv_idiv hx hb dX9_nodes_91 (by decide +kernel) ?_
                                                                          refine my_eqi (y := 0) (by decide +kernel) ?_
                                                                          refine lv_istore (lv' := [(4, .int 0), (5, .int (nI k)), (3, .int 0), (2, .int bo9), (1, .int m9), (0, .ref m0)]) hx hb dX9_nodes_92 hl (by decide) rfl (fun ls hl => ?_)
                                                                          refine lv_goto (tgt := 7) hx hb dX9_nodes_94 (by decide) ?_
                                                                          refine lv_iload hx hb dX9_nodes_7 (lv_at hl 0 rfl) ?_
                                                                          refine lv_if_le (tgt := 97) hx hb dX9_nodes_9 (by decide) (fun c9 => ?_) (fun c9 => ?_)
                                                                          ·
                                                                            refine lv_iload_n hx hb dX9_nodes_97 rfl (lv_at hl 2 rfl) ?_
                                                                            exact my_rpI hx hb hr hlocks (rfl) dX9_nodes_98
                                                                          ·
                                                                            exact absurd c9 (by decide +kernel)
                                                                        ·
                                                                          have d20 : ((k : Nat) : Int) < (256 : Int) := my_nge c20 (nI_toInt (by omega)) (by decide +kernel)
                                                                          refine lv_aload_n hx hb dX9_nodes_23 rfl (lv_at hl 5 rfl) ?_
                                                                          refine lv_iconst (v := 0) hx hb dX9_nodes_24 (by decide +kernel) ?_
                                                                          refine lv_iload hx hb dX9_nodes_25 (lv_at hl 0 rfl) ?_
                                                                          refine lv_iload hx hb dX9_nodes_27 (lv_at hl 0 rfl) ?_
                                                                          refine lv_iload hx hb dX9_nodes_29 (lv_at hl 1 rfl) ?_
                                                                          refine lv_iadd hx hb dX9_nodes_31 ?_
                                                                          refine my_eqi (y := nI (k + 1)) (my_addN k 1) ?_
                                                                          refine lv_iconst (v := 1) hx hb dX9_nodes_32 (by decide +kernel) ?_
                                                                          refine lv_isub hx hb dX9_nodes_33 ?_
                                                                          refine lv_topi (fun z_1 ez_1 => ?_)
                                                                          refine my_gpI (my_pV (As := [.int 0, .int (nI k), .int z_1]) (rest := []) (ci := 9) ⟨hx, hb, hml, hown, hts⟩ (cwV 3 hts gX9_nodes_X9_within rfl rfl rfl (by decide +kernel) ⟨Nat.le_of_ble_eq_true rfl, Nat.le_of_ble_eq_true rfl⟩) hN hK hP [0, 1] rfl 0 rfl rfl rfl rfl hl.1 rfl (Nat.le_of_ble_eq_true rfl) dX9_nodes_34 ⟨Nat.le_of_ble_eq_true rfl, Nat.le_of_ble_eq_true rfl⟩  (k0_X9_within l D cI cJ m0 a_row a_tape a_number a_read a_readBits a_stands a_parted a_bitsWere a_stood a_chosen a_bestChosen a_often a_sorted a_risen a_risenWays i_thrown i_told i_taped i_at i_to i_many i_readMany i_fewest i_size (nI k) z_1)) (fun r hp => ?_)
                                                                          obtain rfl := hp
                                                                          refine lv_istore (lv' := [(6, .int 0), (5, .int (nI k)), (4, .int 1), (3, .int 0), (2, .int bo9), (1, .int m9), (0, .ref m0)]) hx hb dX9_nodes_37 hl (by decide) rfl (fun ls hl => ?_)
                                                                          refine lv_iload_n hx hb dX9_nodes_39 rfl (lv_at hl 3 rfl) ?_
                                                                          refine lv_iload hx hb dX9_nodes_40 (lv_at hl 0 rfl) ?_
                                                                          refine lv_iload_n hx hb dX9_nodes_42 rfl (lv_at hl 5 rfl) ?_
                                                                          refine lv_icmp_lt (tgt := 72) hx hb dX9_nodes_43 (by decide) (fun c43 => ?_) (fun c43 => ?_)
                                                                          ·
                                                                            have d43 : (0 : Int) < m9.toInt := my_lt c43 (by decide +kernel) rfl
                                                                            refine lv_iconst (v := 0) hx hb dX9_nodes_72 (by decide +kernel) ?_
                                                                            refine my_gpI (my_pS (As := [.int 0]) (rest := [.int 0]) ⟨hx, hb, hml, hown, hts⟩ (va_cwS 1 hts gX9_nodes_X9_flag rfl rfl rfl (by decide +kernel) ⟨Nat.le_of_ble_eq_true rfl, Nat.le_of_ble_eq_true rfl⟩) hN hK hP [] rfl rfl hl.1 rfl (Nat.le_of_ble_eq_true rfl) dX9_nodes_73 ⟨Nat.le_of_ble_eq_true rfl, Nat.le_of_ble_eq_true rfl⟩  (k0_X9_flag l D cI cJ )) (fun r hp => ?_)
                                                                            obtain rfl := hp
                                                                            refine lv_iadd hx hb dX9_nodes_76 ?_
                                                                            refine my_eqi (y := 0) (by decide +kernel) ?_
                                                                            refine lv_istore_n (lv' := [(3, .int 0), (6, .int 0), (5, .int (nI k)), (4, .int 1), (2, .int bo9), (1, .int m9), (0, .ref m0)]) hx hb dX9_nodes_77 rfl hl (by decide) rfl (fun ls hl => ?_)
                                                                            refine lv_iload hx hb dX9_nodes_78 (lv_at hl 2 rfl) ?_
                                                                            refine lv_iload hx hb dX9_nodes_80 (lv_at hl 3 rfl) ?_
                                                                            refine lv_iadd hx hb dX9_nodes_82 ?_
                                                                            refine my_eqi (y := nI (k + 1)) (my_addN k 1) ?_
                                                                            refine lv_istore (lv' := [(5, .int (nI (k + 1))), (3, .int 0), (6, .int 0), (4, .int 1), (2, .int bo9), (1, .int m9), (0, .ref m0)]) hx hb dX9_nodes_83 hl (by decide) rfl (fun ls hl => ?_)
                                                                            refine lv_goto (tgt := 15) hx hb dX9_nodes_85 (by decide) ?_
                                                                            exact ih15  (k + 1) (by omega) (by omega) ls (lv_sub hl [0, 3, 1, 4, 5, 6] rfl)
                                                                          ·
                                                                            have d43 : (0 : Int) ≥ m9.toInt := my_nlt c43 (by decide +kernel) rfl
                                                                            exact absurd d43 (by omega)
                                                                    exact loop15 ((256 - 0) + 1) 0 (Nat.lt_succ_self _) (by first | omega | decide +kernel) ls (lv_sub hl [0, 1, 2, 3, 4, 5] rfl)
                                                                ·
                                                                  have d20 : ((k : Nat) : Int) < (256 : Int) := my_nge c20 (nI_toInt (by omega)) (by decide +kernel)
                                                                  refine lv_aload_n hx hb dX9_nodes_23 rfl (lv_at hl 5 rfl) ?_
                                                                  refine lv_iconst (v := 0) hx hb dX9_nodes_24 (by decide +kernel) ?_
                                                                  refine lv_iload hx hb dX9_nodes_25 (lv_at hl 0 rfl) ?_
                                                                  refine lv_iload hx hb dX9_nodes_27 (lv_at hl 0 rfl) ?_
                                                                  refine lv_iload hx hb dX9_nodes_29 (lv_at hl 1 rfl) ?_
                                                                  refine lv_iadd hx hb dX9_nodes_31 ?_
                                                                  refine my_eqi (y := nI (k + 2)) (my_addN k 2) ?_
                                                                  refine lv_iconst (v := 1) hx hb dX9_nodes_32 (by decide +kernel) ?_
                                                                  refine lv_isub hx hb dX9_nodes_33 ?_
                                                                  refine lv_topi (fun z_2 ez_2 => ?_)
                                                                  refine my_gpI (my_pV (As := [.int 0, .int (nI k), .int z_2]) (rest := []) (ci := 9) ⟨hx, hb, hml, hown, hts⟩ (cwV 3 hts gX9_nodes_X9_within rfl rfl rfl (by decide +kernel) ⟨Nat.le_of_ble_eq_true rfl, Nat.le_of_ble_eq_true rfl⟩) hN hK hP [0, 1] rfl 0 rfl rfl rfl rfl hl.1 rfl (Nat.le_of_ble_eq_true rfl) dX9_nodes_34 ⟨Nat.le_of_ble_eq_true rfl, Nat.le_of_ble_eq_true rfl⟩  (k0_X9_within l D cI cJ m0 a_row a_tape a_number a_read a_readBits a_stands a_parted a_bitsWere a_stood a_chosen a_bestChosen a_often a_sorted a_risen a_risenWays i_thrown i_told i_taped i_at i_to i_many i_readMany i_fewest i_size (nI k) z_2)) (fun r hp => ?_)
                                                                  obtain rfl := hp
                                                                  refine lv_istore (lv' := [(6, .int 0), (5, .int (nI k)), (4, .int 2), (3, .int 0), (2, .int bo9), (1, .int m9), (0, .ref m0)]) hx hb dX9_nodes_37 hl (by decide) rfl (fun ls hl => ?_)
                                                                  refine lv_iload_n hx hb dX9_nodes_39 rfl (lv_at hl 3 rfl) ?_
                                                                  refine lv_iload hx hb dX9_nodes_40 (lv_at hl 0 rfl) ?_
                                                                  refine lv_iload_n hx hb dX9_nodes_42 rfl (lv_at hl 5 rfl) ?_
                                                                  refine lv_icmp_lt (tgt := 72) hx hb dX9_nodes_43 (by decide) (fun c43 => ?_) (fun c43 => ?_)
                                                                  ·
                                                                    have d43 : (0 : Int) < m9.toInt := my_lt c43 (by decide +kernel) rfl
                                                                    refine lv_iconst (v := 0) hx hb dX9_nodes_72 (by decide +kernel) ?_
                                                                    refine my_gpI (my_pS (As := [.int 0]) (rest := [.int 0]) ⟨hx, hb, hml, hown, hts⟩ (va_cwS 1 hts gX9_nodes_X9_flag rfl rfl rfl (by decide +kernel) ⟨Nat.le_of_ble_eq_true rfl, Nat.le_of_ble_eq_true rfl⟩) hN hK hP [] rfl rfl hl.1 rfl (Nat.le_of_ble_eq_true rfl) dX9_nodes_73 ⟨Nat.le_of_ble_eq_true rfl, Nat.le_of_ble_eq_true rfl⟩  (k0_X9_flag l D cI cJ )) (fun r hp => ?_)
                                                                    obtain rfl := hp
                                                                    refine lv_iadd hx hb dX9_nodes_76 ?_
                                                                    refine my_eqi (y := 0) (by decide +kernel) ?_
                                                                    refine lv_istore_n (lv' := [(3, .int 0), (6, .int 0), (5, .int (nI k)), (4, .int 2), (2, .int bo9), (1, .int m9), (0, .ref m0)]) hx hb dX9_nodes_77 rfl hl (by decide) rfl (fun ls hl => ?_)
                                                                    refine lv_iload hx hb dX9_nodes_78 (lv_at hl 2 rfl) ?_
                                                                    refine lv_iload hx hb dX9_nodes_80 (lv_at hl 3 rfl) ?_
                                                                    refine lv_iadd hx hb dX9_nodes_82 ?_
                                                                    refine my_eqi (y := nI (k + 2)) (my_addN k 2) ?_
                                                                    refine lv_istore (lv' := [(5, .int (nI (k + 2))), (3, .int 0), (6, .int 0), (4, .int 2), (2, .int bo9), (1, .int m9), (0, .ref m0)]) hx hb dX9_nodes_83 hl (by decide) rfl (fun ls hl => ?_)
                                                                    refine lv_goto (tgt := 15) hx hb dX9_nodes_85 (by decide) ?_
                                                                    exact ih15  (k + 2) (by omega) (by omega) ls (lv_sub hl [0, 3, 1, 4, 5, 6] rfl)
                                                                  ·
                                                                    have d43 : (0 : Int) ≥ m9.toInt := my_nlt c43 (by decide +kernel) rfl
                                                                    exact absurd d43 (by omega)
                                                            exact loop15 ((256 - 0) + 1) 0 (Nat.lt_succ_self _) (by first | omega | decide +kernel) ls (lv_sub hl [0, 1, 2, 3, 4, 5] rfl)
                                                        ·
                                                          have d20 : ((k : Nat) : Int) < (256 : Int) := my_nge c20 (nI_toInt (by omega)) (by decide +kernel)
                                                          refine lv_aload_n hx hb dX9_nodes_23 rfl (lv_at hl 5 rfl) ?_
                                                          refine lv_iconst (v := 0) hx hb dX9_nodes_24 (by decide +kernel) ?_
                                                          refine lv_iload hx hb dX9_nodes_25 (lv_at hl 0 rfl) ?_
                                                          refine lv_iload hx hb dX9_nodes_27 (lv_at hl 0 rfl) ?_
                                                          refine lv_iload hx hb dX9_nodes_29 (lv_at hl 1 rfl) ?_
                                                          refine lv_iadd hx hb dX9_nodes_31 ?_
                                                          refine my_eqi (y := nI (k + 4)) (my_addN k 4) ?_
                                                          refine lv_iconst (v := 1) hx hb dX9_nodes_32 (by decide +kernel) ?_
                                                          refine lv_isub hx hb dX9_nodes_33 ?_
                                                          refine lv_topi (fun z_3 ez_3 => ?_)
                                                          refine my_gpI (my_pV (As := [.int 0, .int (nI k), .int z_3]) (rest := []) (ci := 9) ⟨hx, hb, hml, hown, hts⟩ (cwV 3 hts gX9_nodes_X9_within rfl rfl rfl (by decide +kernel) ⟨Nat.le_of_ble_eq_true rfl, Nat.le_of_ble_eq_true rfl⟩) hN hK hP [0, 1] rfl 0 rfl rfl rfl rfl hl.1 rfl (Nat.le_of_ble_eq_true rfl) dX9_nodes_34 ⟨Nat.le_of_ble_eq_true rfl, Nat.le_of_ble_eq_true rfl⟩  (k0_X9_within l D cI cJ m0 a_row a_tape a_number a_read a_readBits a_stands a_parted a_bitsWere a_stood a_chosen a_bestChosen a_often a_sorted a_risen a_risenWays i_thrown i_told i_taped i_at i_to i_many i_readMany i_fewest i_size (nI k) z_3)) (fun r hp => ?_)
                                                          obtain rfl := hp
                                                          refine lv_istore (lv' := [(6, .int 0), (5, .int (nI k)), (4, .int 4), (3, .int 0), (2, .int bo9), (1, .int m9), (0, .ref m0)]) hx hb dX9_nodes_37 hl (by decide) rfl (fun ls hl => ?_)
                                                          refine lv_iload_n hx hb dX9_nodes_39 rfl (lv_at hl 3 rfl) ?_
                                                          refine lv_iload hx hb dX9_nodes_40 (lv_at hl 0 rfl) ?_
                                                          refine lv_iload_n hx hb dX9_nodes_42 rfl (lv_at hl 5 rfl) ?_
                                                          refine lv_icmp_lt (tgt := 72) hx hb dX9_nodes_43 (by decide) (fun c43 => ?_) (fun c43 => ?_)
                                                          ·
                                                            have d43 : (0 : Int) < m9.toInt := my_lt c43 (by decide +kernel) rfl
                                                            refine lv_iconst (v := 0) hx hb dX9_nodes_72 (by decide +kernel) ?_
                                                            refine my_gpI (my_pS (As := [.int 0]) (rest := [.int 0]) ⟨hx, hb, hml, hown, hts⟩ (va_cwS 1 hts gX9_nodes_X9_flag rfl rfl rfl (by decide +kernel) ⟨Nat.le_of_ble_eq_true rfl, Nat.le_of_ble_eq_true rfl⟩) hN hK hP [] rfl rfl hl.1 rfl (Nat.le_of_ble_eq_true rfl) dX9_nodes_73 ⟨Nat.le_of_ble_eq_true rfl, Nat.le_of_ble_eq_true rfl⟩  (k0_X9_flag l D cI cJ )) (fun r hp => ?_)
                                                            obtain rfl := hp
                                                            refine lv_iadd hx hb dX9_nodes_76 ?_
                                                            refine my_eqi (y := 0) (by decide +kernel) ?_
                                                            refine lv_istore_n (lv' := [(3, .int 0), (6, .int 0), (5, .int (nI k)), (4, .int 4), (2, .int bo9), (1, .int m9), (0, .ref m0)]) hx hb dX9_nodes_77 rfl hl (by decide) rfl (fun ls hl => ?_)
                                                            refine lv_iload hx hb dX9_nodes_78 (lv_at hl 2 rfl) ?_
                                                            refine lv_iload hx hb dX9_nodes_80 (lv_at hl 3 rfl) ?_
                                                            refine lv_iadd hx hb dX9_nodes_82 ?_
                                                            refine my_eqi (y := nI (k + 4)) (my_addN k 4) ?_
                                                            refine lv_istore (lv' := [(5, .int (nI (k + 4))), (3, .int 0), (6, .int 0), (4, .int 4), (2, .int bo9), (1, .int m9), (0, .ref m0)]) hx hb dX9_nodes_83 hl (by decide) rfl (fun ls hl => ?_)
                                                            refine lv_goto (tgt := 15) hx hb dX9_nodes_85 (by decide) ?_
                                                            exact ih15  (k + 4) (by omega) (by omega) ls (lv_sub hl [0, 3, 1, 4, 5, 6] rfl)
                                                          ·
                                                            have d43 : (0 : Int) ≥ m9.toInt := my_nlt c43 (by decide +kernel) rfl
                                                            exact absurd d43 (by omega)
                                                    exact loop15 ((256 - 0) + 1) 0 (Nat.lt_succ_self _) (by first | omega | decide +kernel) ls (lv_sub hl [0, 1, 2, 3, 4, 5] rfl)
                                                ·
                                                  have d20 : ((k : Nat) : Int) < (256 : Int) := my_nge c20 (nI_toInt (by omega)) (by decide +kernel)
                                                  refine lv_aload_n hx hb dX9_nodes_23 rfl (lv_at hl 5 rfl) ?_
                                                  refine lv_iconst (v := 0) hx hb dX9_nodes_24 (by decide +kernel) ?_
                                                  refine lv_iload hx hb dX9_nodes_25 (lv_at hl 0 rfl) ?_
                                                  refine lv_iload hx hb dX9_nodes_27 (lv_at hl 0 rfl) ?_
                                                  refine lv_iload hx hb dX9_nodes_29 (lv_at hl 1 rfl) ?_
                                                  refine lv_iadd hx hb dX9_nodes_31 ?_
                                                  refine my_eqi (y := nI (k + 8)) (my_addN k 8) ?_
                                                  refine lv_iconst (v := 1) hx hb dX9_nodes_32 (by decide +kernel) ?_
                                                  refine lv_isub hx hb dX9_nodes_33 ?_
                                                  refine lv_topi (fun z_4 ez_4 => ?_)
                                                  refine my_gpI (my_pV (As := [.int 0, .int (nI k), .int z_4]) (rest := []) (ci := 9) ⟨hx, hb, hml, hown, hts⟩ (cwV 3 hts gX9_nodes_X9_within rfl rfl rfl (by decide +kernel) ⟨Nat.le_of_ble_eq_true rfl, Nat.le_of_ble_eq_true rfl⟩) hN hK hP [0, 1] rfl 0 rfl rfl rfl rfl hl.1 rfl (Nat.le_of_ble_eq_true rfl) dX9_nodes_34 ⟨Nat.le_of_ble_eq_true rfl, Nat.le_of_ble_eq_true rfl⟩  (k0_X9_within l D cI cJ m0 a_row a_tape a_number a_read a_readBits a_stands a_parted a_bitsWere a_stood a_chosen a_bestChosen a_often a_sorted a_risen a_risenWays i_thrown i_told i_taped i_at i_to i_many i_readMany i_fewest i_size (nI k) z_4)) (fun r hp => ?_)
                                                  obtain rfl := hp
                                                  refine lv_istore (lv' := [(6, .int 0), (5, .int (nI k)), (4, .int 8), (3, .int 0), (2, .int bo9), (1, .int m9), (0, .ref m0)]) hx hb dX9_nodes_37 hl (by decide) rfl (fun ls hl => ?_)
                                                  refine lv_iload_n hx hb dX9_nodes_39 rfl (lv_at hl 3 rfl) ?_
                                                  refine lv_iload hx hb dX9_nodes_40 (lv_at hl 0 rfl) ?_
                                                  refine lv_iload_n hx hb dX9_nodes_42 rfl (lv_at hl 5 rfl) ?_
                                                  refine lv_icmp_lt (tgt := 72) hx hb dX9_nodes_43 (by decide) (fun c43 => ?_) (fun c43 => ?_)
                                                  ·
                                                    have d43 : (0 : Int) < m9.toInt := my_lt c43 (by decide +kernel) rfl
                                                    refine lv_iconst (v := 0) hx hb dX9_nodes_72 (by decide +kernel) ?_
                                                    refine my_gpI (my_pS (As := [.int 0]) (rest := [.int 0]) ⟨hx, hb, hml, hown, hts⟩ (va_cwS 1 hts gX9_nodes_X9_flag rfl rfl rfl (by decide +kernel) ⟨Nat.le_of_ble_eq_true rfl, Nat.le_of_ble_eq_true rfl⟩) hN hK hP [] rfl rfl hl.1 rfl (Nat.le_of_ble_eq_true rfl) dX9_nodes_73 ⟨Nat.le_of_ble_eq_true rfl, Nat.le_of_ble_eq_true rfl⟩  (k0_X9_flag l D cI cJ )) (fun r hp => ?_)
                                                    obtain rfl := hp
                                                    refine lv_iadd hx hb dX9_nodes_76 ?_
                                                    refine my_eqi (y := 0) (by decide +kernel) ?_
                                                    refine lv_istore_n (lv' := [(3, .int 0), (6, .int 0), (5, .int (nI k)), (4, .int 8), (2, .int bo9), (1, .int m9), (0, .ref m0)]) hx hb dX9_nodes_77 rfl hl (by decide) rfl (fun ls hl => ?_)
                                                    refine lv_iload hx hb dX9_nodes_78 (lv_at hl 2 rfl) ?_
                                                    refine lv_iload hx hb dX9_nodes_80 (lv_at hl 3 rfl) ?_
                                                    refine lv_iadd hx hb dX9_nodes_82 ?_
                                                    refine my_eqi (y := nI (k + 8)) (my_addN k 8) ?_
                                                    refine lv_istore (lv' := [(5, .int (nI (k + 8))), (3, .int 0), (6, .int 0), (4, .int 8), (2, .int bo9), (1, .int m9), (0, .ref m0)]) hx hb dX9_nodes_83 hl (by decide) rfl (fun ls hl => ?_)
                                                    refine lv_goto (tgt := 15) hx hb dX9_nodes_85 (by decide) ?_
                                                    exact ih15  (k + 8) (by omega) (by omega) ls (lv_sub hl [0, 3, 1, 4, 5, 6] rfl)
                                                  ·
                                                    have d43 : (0 : Int) ≥ m9.toInt := my_nlt c43 (by decide +kernel) rfl
                                                    exact absurd d43 (by omega)
                                            exact loop15 ((256 - 0) + 1) 0 (Nat.lt_succ_self _) (by first | omega | decide +kernel) ls (lv_sub hl [0, 1, 2, 3, 4, 5] rfl)
                                        ·
                                          have d20 : ((k : Nat) : Int) < (256 : Int) := my_nge c20 (nI_toInt (by omega)) (by decide +kernel)
                                          refine lv_aload_n hx hb dX9_nodes_23 rfl (lv_at hl 5 rfl) ?_
                                          refine lv_iconst (v := 0) hx hb dX9_nodes_24 (by decide +kernel) ?_
                                          refine lv_iload hx hb dX9_nodes_25 (lv_at hl 0 rfl) ?_
                                          refine lv_iload hx hb dX9_nodes_27 (lv_at hl 0 rfl) ?_
                                          refine lv_iload hx hb dX9_nodes_29 (lv_at hl 1 rfl) ?_
                                          refine lv_iadd hx hb dX9_nodes_31 ?_
                                          refine my_eqi (y := nI (k + 16)) (my_addN k 16) ?_
                                          refine lv_iconst (v := 1) hx hb dX9_nodes_32 (by decide +kernel) ?_
                                          refine lv_isub hx hb dX9_nodes_33 ?_
                                          refine lv_topi (fun z_5 ez_5 => ?_)
                                          refine my_gpI (my_pV (As := [.int 0, .int (nI k), .int z_5]) (rest := []) (ci := 9) ⟨hx, hb, hml, hown, hts⟩ (cwV 3 hts gX9_nodes_X9_within rfl rfl rfl (by decide +kernel) ⟨Nat.le_of_ble_eq_true rfl, Nat.le_of_ble_eq_true rfl⟩) hN hK hP [0, 1] rfl 0 rfl rfl rfl rfl hl.1 rfl (Nat.le_of_ble_eq_true rfl) dX9_nodes_34 ⟨Nat.le_of_ble_eq_true rfl, Nat.le_of_ble_eq_true rfl⟩  (k0_X9_within l D cI cJ m0 a_row a_tape a_number a_read a_readBits a_stands a_parted a_bitsWere a_stood a_chosen a_bestChosen a_often a_sorted a_risen a_risenWays i_thrown i_told i_taped i_at i_to i_many i_readMany i_fewest i_size (nI k) z_5)) (fun r hp => ?_)
                                          obtain rfl := hp
                                          refine lv_istore (lv' := [(6, .int 0), (5, .int (nI k)), (4, .int 16), (3, .int 0), (2, .int bo9), (1, .int m9), (0, .ref m0)]) hx hb dX9_nodes_37 hl (by decide) rfl (fun ls hl => ?_)
                                          refine lv_iload_n hx hb dX9_nodes_39 rfl (lv_at hl 3 rfl) ?_
                                          refine lv_iload hx hb dX9_nodes_40 (lv_at hl 0 rfl) ?_
                                          refine lv_iload_n hx hb dX9_nodes_42 rfl (lv_at hl 5 rfl) ?_
                                          refine lv_icmp_lt (tgt := 72) hx hb dX9_nodes_43 (by decide) (fun c43 => ?_) (fun c43 => ?_)
                                          ·
                                            have d43 : (0 : Int) < m9.toInt := my_lt c43 (by decide +kernel) rfl
                                            refine lv_iconst (v := 0) hx hb dX9_nodes_72 (by decide +kernel) ?_
                                            refine my_gpI (my_pS (As := [.int 0]) (rest := [.int 0]) ⟨hx, hb, hml, hown, hts⟩ (va_cwS 1 hts gX9_nodes_X9_flag rfl rfl rfl (by decide +kernel) ⟨Nat.le_of_ble_eq_true rfl, Nat.le_of_ble_eq_true rfl⟩) hN hK hP [] rfl rfl hl.1 rfl (Nat.le_of_ble_eq_true rfl) dX9_nodes_73 ⟨Nat.le_of_ble_eq_true rfl, Nat.le_of_ble_eq_true rfl⟩  (k0_X9_flag l D cI cJ )) (fun r hp => ?_)
                                            obtain rfl := hp
                                            refine lv_iadd hx hb dX9_nodes_76 ?_
                                            refine my_eqi (y := 0) (by decide +kernel) ?_
                                            refine lv_istore_n (lv' := [(3, .int 0), (6, .int 0), (5, .int (nI k)), (4, .int 16), (2, .int bo9), (1, .int m9), (0, .ref m0)]) hx hb dX9_nodes_77 rfl hl (by decide) rfl (fun ls hl => ?_)
                                            refine lv_iload hx hb dX9_nodes_78 (lv_at hl 2 rfl) ?_
                                            refine lv_iload hx hb dX9_nodes_80 (lv_at hl 3 rfl) ?_
                                            refine lv_iadd hx hb dX9_nodes_82 ?_
                                            refine my_eqi (y := nI (k + 16)) (my_addN k 16) ?_
                                            refine lv_istore (lv' := [(5, .int (nI (k + 16))), (3, .int 0), (6, .int 0), (4, .int 16), (2, .int bo9), (1, .int m9), (0, .ref m0)]) hx hb dX9_nodes_83 hl (by decide) rfl (fun ls hl => ?_)
                                            refine lv_goto (tgt := 15) hx hb dX9_nodes_85 (by decide) ?_
                                            exact ih15  (k + 16) (by omega) (by omega) ls (lv_sub hl [0, 3, 1, 4, 5, 6] rfl)
                                          ·
                                            have d43 : (0 : Int) ≥ m9.toInt := my_nlt c43 (by decide +kernel) rfl
                                            exact absurd d43 (by omega)
                                    exact loop15 ((256 - 0) + 1) 0 (Nat.lt_succ_self _) (by first | omega | decide +kernel) ls (lv_sub hl [0, 1, 2, 3, 4, 5] rfl)
                                ·
                                  have d20 : ((k : Nat) : Int) < (256 : Int) := my_nge c20 (nI_toInt (by omega)) (by decide +kernel)
                                  refine lv_aload_n hx hb dX9_nodes_23 rfl (lv_at hl 5 rfl) ?_
                                  refine lv_iconst (v := 0) hx hb dX9_nodes_24 (by decide +kernel) ?_
                                  refine lv_iload hx hb dX9_nodes_25 (lv_at hl 0 rfl) ?_
                                  refine lv_iload hx hb dX9_nodes_27 (lv_at hl 0 rfl) ?_
                                  refine lv_iload hx hb dX9_nodes_29 (lv_at hl 1 rfl) ?_
                                  refine lv_iadd hx hb dX9_nodes_31 ?_
                                  refine my_eqi (y := nI (k + 32)) (my_addN k 32) ?_
                                  refine lv_iconst (v := 1) hx hb dX9_nodes_32 (by decide +kernel) ?_
                                  refine lv_isub hx hb dX9_nodes_33 ?_
                                  refine lv_topi (fun z_6 ez_6 => ?_)
                                  refine my_gpI (my_pV (As := [.int 0, .int (nI k), .int z_6]) (rest := []) (ci := 9) ⟨hx, hb, hml, hown, hts⟩ (cwV 3 hts gX9_nodes_X9_within rfl rfl rfl (by decide +kernel) ⟨Nat.le_of_ble_eq_true rfl, Nat.le_of_ble_eq_true rfl⟩) hN hK hP [0, 1] rfl 0 rfl rfl rfl rfl hl.1 rfl (Nat.le_of_ble_eq_true rfl) dX9_nodes_34 ⟨Nat.le_of_ble_eq_true rfl, Nat.le_of_ble_eq_true rfl⟩  (k0_X9_within l D cI cJ m0 a_row a_tape a_number a_read a_readBits a_stands a_parted a_bitsWere a_stood a_chosen a_bestChosen a_often a_sorted a_risen a_risenWays i_thrown i_told i_taped i_at i_to i_many i_readMany i_fewest i_size (nI k) z_6)) (fun r hp => ?_)
                                  obtain rfl := hp
                                  refine lv_istore (lv' := [(6, .int 0), (5, .int (nI k)), (4, .int 32), (3, .int 0), (2, .int bo9), (1, .int m9), (0, .ref m0)]) hx hb dX9_nodes_37 hl (by decide) rfl (fun ls hl => ?_)
                                  refine lv_iload_n hx hb dX9_nodes_39 rfl (lv_at hl 3 rfl) ?_
                                  refine lv_iload hx hb dX9_nodes_40 (lv_at hl 0 rfl) ?_
                                  refine lv_iload_n hx hb dX9_nodes_42 rfl (lv_at hl 5 rfl) ?_
                                  refine lv_icmp_lt (tgt := 72) hx hb dX9_nodes_43 (by decide) (fun c43 => ?_) (fun c43 => ?_)
                                  ·
                                    have d43 : (0 : Int) < m9.toInt := my_lt c43 (by decide +kernel) rfl
                                    refine lv_iconst (v := 0) hx hb dX9_nodes_72 (by decide +kernel) ?_
                                    refine my_gpI (my_pS (As := [.int 0]) (rest := [.int 0]) ⟨hx, hb, hml, hown, hts⟩ (va_cwS 1 hts gX9_nodes_X9_flag rfl rfl rfl (by decide +kernel) ⟨Nat.le_of_ble_eq_true rfl, Nat.le_of_ble_eq_true rfl⟩) hN hK hP [] rfl rfl hl.1 rfl (Nat.le_of_ble_eq_true rfl) dX9_nodes_73 ⟨Nat.le_of_ble_eq_true rfl, Nat.le_of_ble_eq_true rfl⟩  (k0_X9_flag l D cI cJ )) (fun r hp => ?_)
                                    obtain rfl := hp
                                    refine lv_iadd hx hb dX9_nodes_76 ?_
                                    refine my_eqi (y := 0) (by decide +kernel) ?_
                                    refine lv_istore_n (lv' := [(3, .int 0), (6, .int 0), (5, .int (nI k)), (4, .int 32), (2, .int bo9), (1, .int m9), (0, .ref m0)]) hx hb dX9_nodes_77 rfl hl (by decide) rfl (fun ls hl => ?_)
                                    refine lv_iload hx hb dX9_nodes_78 (lv_at hl 2 rfl) ?_
                                    refine lv_iload hx hb dX9_nodes_80 (lv_at hl 3 rfl) ?_
                                    refine lv_iadd hx hb dX9_nodes_82 ?_
                                    refine my_eqi (y := nI (k + 32)) (my_addN k 32) ?_
                                    refine lv_istore (lv' := [(5, .int (nI (k + 32))), (3, .int 0), (6, .int 0), (4, .int 32), (2, .int bo9), (1, .int m9), (0, .ref m0)]) hx hb dX9_nodes_83 hl (by decide) rfl (fun ls hl => ?_)
                                    refine lv_goto (tgt := 15) hx hb dX9_nodes_85 (by decide) ?_
                                    exact ih15  (k + 32) (by omega) (by omega) ls (lv_sub hl [0, 3, 1, 4, 5, 6] rfl)
                                  ·
                                    have d43 : (0 : Int) ≥ m9.toInt := my_nlt c43 (by decide +kernel) rfl
                                    exact absurd d43 (by omega)
                            exact loop15 ((256 - 0) + 1) 0 (Nat.lt_succ_self _) (by first | omega | decide +kernel) ls (lv_sub hl [0, 1, 2, 3, 4, 5] rfl)
                        ·
                          have d20 : ((k : Nat) : Int) < (256 : Int) := my_nge c20 (nI_toInt (by omega)) (by decide +kernel)
                          refine lv_aload_n hx hb dX9_nodes_23 rfl (lv_at hl 5 rfl) ?_
                          refine lv_iconst (v := 0) hx hb dX9_nodes_24 (by decide +kernel) ?_
                          refine lv_iload hx hb dX9_nodes_25 (lv_at hl 0 rfl) ?_
                          refine lv_iload hx hb dX9_nodes_27 (lv_at hl 0 rfl) ?_
                          refine lv_iload hx hb dX9_nodes_29 (lv_at hl 1 rfl) ?_
                          refine lv_iadd hx hb dX9_nodes_31 ?_
                          refine my_eqi (y := nI (k + 64)) (my_addN k 64) ?_
                          refine lv_iconst (v := 1) hx hb dX9_nodes_32 (by decide +kernel) ?_
                          refine lv_isub hx hb dX9_nodes_33 ?_
                          refine lv_topi (fun z_7 ez_7 => ?_)
                          refine my_gpI (my_pV (As := [.int 0, .int (nI k), .int z_7]) (rest := []) (ci := 9) ⟨hx, hb, hml, hown, hts⟩ (cwV 3 hts gX9_nodes_X9_within rfl rfl rfl (by decide +kernel) ⟨Nat.le_of_ble_eq_true rfl, Nat.le_of_ble_eq_true rfl⟩) hN hK hP [0, 1] rfl 0 rfl rfl rfl rfl hl.1 rfl (Nat.le_of_ble_eq_true rfl) dX9_nodes_34 ⟨Nat.le_of_ble_eq_true rfl, Nat.le_of_ble_eq_true rfl⟩  (k0_X9_within l D cI cJ m0 a_row a_tape a_number a_read a_readBits a_stands a_parted a_bitsWere a_stood a_chosen a_bestChosen a_often a_sorted a_risen a_risenWays i_thrown i_told i_taped i_at i_to i_many i_readMany i_fewest i_size (nI k) z_7)) (fun r hp => ?_)
                          obtain rfl := hp
                          refine lv_istore (lv' := [(6, .int 0), (5, .int (nI k)), (4, .int 64), (3, .int 0), (2, .int bo9), (1, .int m9), (0, .ref m0)]) hx hb dX9_nodes_37 hl (by decide) rfl (fun ls hl => ?_)
                          refine lv_iload_n hx hb dX9_nodes_39 rfl (lv_at hl 3 rfl) ?_
                          refine lv_iload hx hb dX9_nodes_40 (lv_at hl 0 rfl) ?_
                          refine lv_iload_n hx hb dX9_nodes_42 rfl (lv_at hl 5 rfl) ?_
                          refine lv_icmp_lt (tgt := 72) hx hb dX9_nodes_43 (by decide) (fun c43 => ?_) (fun c43 => ?_)
                          ·
                            have d43 : (0 : Int) < m9.toInt := my_lt c43 (by decide +kernel) rfl
                            refine lv_iconst (v := 0) hx hb dX9_nodes_72 (by decide +kernel) ?_
                            refine my_gpI (my_pS (As := [.int 0]) (rest := [.int 0]) ⟨hx, hb, hml, hown, hts⟩ (va_cwS 1 hts gX9_nodes_X9_flag rfl rfl rfl (by decide +kernel) ⟨Nat.le_of_ble_eq_true rfl, Nat.le_of_ble_eq_true rfl⟩) hN hK hP [] rfl rfl hl.1 rfl (Nat.le_of_ble_eq_true rfl) dX9_nodes_73 ⟨Nat.le_of_ble_eq_true rfl, Nat.le_of_ble_eq_true rfl⟩  (k0_X9_flag l D cI cJ )) (fun r hp => ?_)
                            obtain rfl := hp
                            refine lv_iadd hx hb dX9_nodes_76 ?_
                            refine my_eqi (y := 0) (by decide +kernel) ?_
                            refine lv_istore_n (lv' := [(3, .int 0), (6, .int 0), (5, .int (nI k)), (4, .int 64), (2, .int bo9), (1, .int m9), (0, .ref m0)]) hx hb dX9_nodes_77 rfl hl (by decide) rfl (fun ls hl => ?_)
                            refine lv_iload hx hb dX9_nodes_78 (lv_at hl 2 rfl) ?_
                            refine lv_iload hx hb dX9_nodes_80 (lv_at hl 3 rfl) ?_
                            refine lv_iadd hx hb dX9_nodes_82 ?_
                            refine my_eqi (y := nI (k + 64)) (my_addN k 64) ?_
                            refine lv_istore (lv' := [(5, .int (nI (k + 64))), (3, .int 0), (6, .int 0), (4, .int 64), (2, .int bo9), (1, .int m9), (0, .ref m0)]) hx hb dX9_nodes_83 hl (by decide) rfl (fun ls hl => ?_)
                            refine lv_goto (tgt := 15) hx hb dX9_nodes_85 (by decide) ?_
                            exact ih15  (k + 64) (by omega) (by omega) ls (lv_sub hl [0, 3, 1, 4, 5, 6] rfl)
                          ·
                            have d43 : (0 : Int) ≥ m9.toInt := my_nlt c43 (by decide +kernel) rfl
                            exact absurd d43 (by omega)
                    exact loop15 ((256 - 0) + 1) 0 (Nat.lt_succ_self _) (by first | omega | decide +kernel) ls (lv_sub hl [0, 1, 2, 3, 4, 5] rfl)
                ·
                  have d20 : ((k : Nat) : Int) < (256 : Int) := my_nge c20 (nI_toInt (by omega)) (by decide +kernel)
                  refine lv_aload_n hx hb dX9_nodes_23 rfl (lv_at hl 5 rfl) ?_
                  refine lv_iconst (v := 0) hx hb dX9_nodes_24 (by decide +kernel) ?_
                  refine lv_iload hx hb dX9_nodes_25 (lv_at hl 0 rfl) ?_
                  refine lv_iload hx hb dX9_nodes_27 (lv_at hl 0 rfl) ?_
                  refine lv_iload hx hb dX9_nodes_29 (lv_at hl 1 rfl) ?_
                  refine lv_iadd hx hb dX9_nodes_31 ?_
                  refine my_eqi (y := nI (k + 128)) (my_addN k 128) ?_
                  refine lv_iconst (v := 1) hx hb dX9_nodes_32 (by decide +kernel) ?_
                  refine lv_isub hx hb dX9_nodes_33 ?_
                  refine lv_topi (fun z_8 ez_8 => ?_)
                  refine my_gpI (my_pV (As := [.int 0, .int (nI k), .int z_8]) (rest := []) (ci := 9) ⟨hx, hb, hml, hown, hts⟩ (cwV 3 hts gX9_nodes_X9_within rfl rfl rfl (by decide +kernel) ⟨Nat.le_of_ble_eq_true rfl, Nat.le_of_ble_eq_true rfl⟩) hN hK hP [0, 1] rfl 0 rfl rfl rfl rfl hl.1 rfl (Nat.le_of_ble_eq_true rfl) dX9_nodes_34 ⟨Nat.le_of_ble_eq_true rfl, Nat.le_of_ble_eq_true rfl⟩  (k0_X9_within l D cI cJ m0 a_row a_tape a_number a_read a_readBits a_stands a_parted a_bitsWere a_stood a_chosen a_bestChosen a_often a_sorted a_risen a_risenWays i_thrown i_told i_taped i_at i_to i_many i_readMany i_fewest i_size (nI k) z_8)) (fun r hp => ?_)
                  obtain rfl := hp
                  refine lv_istore (lv' := [(6, .int 0), (5, .int (nI k)), (4, .int 128), (3, .int 0), (2, .int bo9), (1, .int m9), (0, .ref m0)]) hx hb dX9_nodes_37 hl (by decide) rfl (fun ls hl => ?_)
                  refine lv_iload_n hx hb dX9_nodes_39 rfl (lv_at hl 3 rfl) ?_
                  refine lv_iload hx hb dX9_nodes_40 (lv_at hl 0 rfl) ?_
                  refine lv_iload_n hx hb dX9_nodes_42 rfl (lv_at hl 5 rfl) ?_
                  refine lv_icmp_lt (tgt := 72) hx hb dX9_nodes_43 (by decide) (fun c43 => ?_) (fun c43 => ?_)
                  ·
                    have d43 : (0 : Int) < m9.toInt := my_lt c43 (by decide +kernel) rfl
                    refine lv_iconst (v := 0) hx hb dX9_nodes_72 (by decide +kernel) ?_
                    refine my_gpI (my_pS (As := [.int 0]) (rest := [.int 0]) ⟨hx, hb, hml, hown, hts⟩ (va_cwS 1 hts gX9_nodes_X9_flag rfl rfl rfl (by decide +kernel) ⟨Nat.le_of_ble_eq_true rfl, Nat.le_of_ble_eq_true rfl⟩) hN hK hP [] rfl rfl hl.1 rfl (Nat.le_of_ble_eq_true rfl) dX9_nodes_73 ⟨Nat.le_of_ble_eq_true rfl, Nat.le_of_ble_eq_true rfl⟩  (k0_X9_flag l D cI cJ )) (fun r hp => ?_)
                    obtain rfl := hp
                    refine lv_iadd hx hb dX9_nodes_76 ?_
                    refine my_eqi (y := 0) (by decide +kernel) ?_
                    refine lv_istore_n (lv' := [(3, .int 0), (6, .int 0), (5, .int (nI k)), (4, .int 128), (2, .int bo9), (1, .int m9), (0, .ref m0)]) hx hb dX9_nodes_77 rfl hl (by decide) rfl (fun ls hl => ?_)
                    refine lv_iload hx hb dX9_nodes_78 (lv_at hl 2 rfl) ?_
                    refine lv_iload hx hb dX9_nodes_80 (lv_at hl 3 rfl) ?_
                    refine lv_iadd hx hb dX9_nodes_82 ?_
                    refine my_eqi (y := nI (k + 128)) (my_addN k 128) ?_
                    refine lv_istore (lv' := [(5, .int (nI (k + 128))), (3, .int 0), (6, .int 0), (4, .int 128), (2, .int bo9), (1, .int m9), (0, .ref m0)]) hx hb dX9_nodes_83 hl (by decide) rfl (fun ls hl => ?_)
                    refine lv_goto (tgt := 15) hx hb dX9_nodes_85 (by decide) ?_
                    exact ih15  (k + 128) (by omega) (by omega) ls (lv_sub hl [0, 3, 1, 4, 5, 6] rfl)
                  ·
                    have d43 : (0 : Int) ≥ m9.toInt := my_nlt c43 (by decide +kernel) rfl
                    exact absurd d43 (by omega)
            exact loop15 ((256 - 0) + 1) 0 (Nat.lt_succ_self _) (by first | omega | decide +kernel) ls (lv_sub hl [0, 1, 2, 3, 4, 5] rfl)
        ·
          have d20 : ((k : Nat) : Int) < (256 : Int) := my_nge c20 (nI_toInt (by omega)) (by decide +kernel)
          refine lv_aload_n hx hb dX9_nodes_23 rfl (lv_at hl 5 rfl) ?_
          refine lv_iconst (v := 0) hx hb dX9_nodes_24 (by decide +kernel) ?_
          refine lv_iload hx hb dX9_nodes_25 (lv_at hl 0 rfl) ?_
          refine lv_iload hx hb dX9_nodes_27 (lv_at hl 0 rfl) ?_
          refine lv_iload hx hb dX9_nodes_29 (lv_at hl 1 rfl) ?_
          refine lv_iadd hx hb dX9_nodes_31 ?_
          refine my_eqi (y := nI (k + 256)) (my_addN k 256) ?_
          refine lv_iconst (v := 1) hx hb dX9_nodes_32 (by decide +kernel) ?_
          refine lv_isub hx hb dX9_nodes_33 ?_
          refine lv_topi (fun z_9 ez_9 => ?_)
          refine my_gpI (my_pV (As := [.int 0, .int (nI k), .int z_9]) (rest := []) (ci := 9) ⟨hx, hb, hml, hown, hts⟩ (cwV 3 hts gX9_nodes_X9_within rfl rfl rfl (by decide +kernel) ⟨Nat.le_of_ble_eq_true rfl, Nat.le_of_ble_eq_true rfl⟩) hN hK hP [0, 1] rfl 0 rfl rfl rfl rfl hl.1 rfl (Nat.le_of_ble_eq_true rfl) dX9_nodes_34 ⟨Nat.le_of_ble_eq_true rfl, Nat.le_of_ble_eq_true rfl⟩  (k0_X9_within l D cI cJ m0 a_row a_tape a_number a_read a_readBits a_stands a_parted a_bitsWere a_stood a_chosen a_bestChosen a_often a_sorted a_risen a_risenWays i_thrown i_told i_taped i_at i_to i_many i_readMany i_fewest i_size (nI k) z_9)) (fun r hp => ?_)
          obtain rfl := hp
          refine lv_istore (lv' := [(6, .int 0), (5, .int (nI k)), (4, .int 256), (3, .int 0), (2, .int bo9), (1, .int m9), (0, .ref m0)]) hx hb dX9_nodes_37 hl (by decide) rfl (fun ls hl => ?_)
          refine lv_iload_n hx hb dX9_nodes_39 rfl (lv_at hl 3 rfl) ?_
          refine lv_iload hx hb dX9_nodes_40 (lv_at hl 0 rfl) ?_
          refine lv_iload_n hx hb dX9_nodes_42 rfl (lv_at hl 5 rfl) ?_
          refine lv_icmp_lt (tgt := 72) hx hb dX9_nodes_43 (by decide) (fun c43 => ?_) (fun c43 => ?_)
          ·
            have d43 : (0 : Int) < m9.toInt := my_lt c43 (by decide +kernel) rfl
            refine lv_iconst (v := 0) hx hb dX9_nodes_72 (by decide +kernel) ?_
            refine my_gpI (my_pS (As := [.int 0]) (rest := [.int 0]) ⟨hx, hb, hml, hown, hts⟩ (va_cwS 1 hts gX9_nodes_X9_flag rfl rfl rfl (by decide +kernel) ⟨Nat.le_of_ble_eq_true rfl, Nat.le_of_ble_eq_true rfl⟩) hN hK hP [] rfl rfl hl.1 rfl (Nat.le_of_ble_eq_true rfl) dX9_nodes_73 ⟨Nat.le_of_ble_eq_true rfl, Nat.le_of_ble_eq_true rfl⟩  (k0_X9_flag l D cI cJ )) (fun r hp => ?_)
            obtain rfl := hp
            refine lv_iadd hx hb dX9_nodes_76 ?_
            refine my_eqi (y := 0) (by decide +kernel) ?_
            refine lv_istore_n (lv' := [(3, .int 0), (6, .int 0), (5, .int (nI k)), (4, .int 256), (2, .int bo9), (1, .int m9), (0, .ref m0)]) hx hb dX9_nodes_77 rfl hl (by decide) rfl (fun ls hl => ?_)
            refine lv_iload hx hb dX9_nodes_78 (lv_at hl 2 rfl) ?_
            refine lv_iload hx hb dX9_nodes_80 (lv_at hl 3 rfl) ?_
            refine lv_iadd hx hb dX9_nodes_82 ?_
            refine my_eqi (y := nI (k + 256)) (my_addN k 256) ?_
            refine lv_istore (lv' := [(5, .int (nI (k + 256))), (3, .int 0), (6, .int 0), (4, .int 256), (2, .int bo9), (1, .int m9), (0, .ref m0)]) hx hb dX9_nodes_83 hl (by decide) rfl (fun ls hl => ?_)
            refine lv_goto (tgt := 15) hx hb dX9_nodes_85 (by decide) ?_
            exact ih15  (k + 256) (by omega) (by omega) ls (lv_sub hl [0, 3, 1, 4, 5, 6] rfl)
          ·
            have d43 : (0 : Int) ≥ m9.toInt := my_nlt c43 (by decide +kernel) rfl
            exact absurd d43 (by omega)
    exact loop15 ((256 - 0) + 1) 0 (Nat.lt_succ_self _) (by first | omega | decide +kernel) ls (lv_sub hl [0, 1, 2, 5, 4, 3] rfl)
set_option maxHeartbeats 4000000 in
set_option maxRecDepth 100000 in
theorem k0_X9_counts_ (l : Launch) (D : va_G) (cI cJ : ClassId) (m0 : Nat) (a_row : Nat) (a_tape : Nat) (a_number : Nat) (a_read : Nat) (a_readBits : Nat) (a_stands : Nat) (a_parted : Nat) (a_bitsWere : Nat) (a_stood : Nat) (a_chosen : Nat) (a_bestChosen : Nat) (a_often : Nat) (a_sorted : Nat) (a_risen : Nat) (a_risenWays : Nat) (i_thrown : Int32) (i_told : Int32) (i_taped : Int32) (i_at : Int32) (i_to : Int32) (i_readMany : Int32) (i_fewest : Int32) (i_size : Int32) (l9 : Int32) (r9 : Int32) (s9 : Int32) (t9 : Int32) : ctI l yX9_counts_ wsX9_counts_ ({ frames := 1, cells := 0, slots := 0, locals := 60 } : Room) D (tyIJ cI cJ) [.ref m0, .int l9, .int r9, .int s9, .int t9] [(m0, .inr (9, [.int i_thrown, .int i_told, .ref a_row, .ref a_tape, .int i_taped, .int i_at, .int i_to, .int 0, .ref a_number, .ref a_read, .int i_readMany, .ref a_readBits, .ref a_stands, .ref a_parted, .ref a_bitsWere, .ref a_stood, .ref a_chosen, .ref a_bestChosen, .int i_fewest, .ref a_often, .ref a_sorted, .int i_size, .ref a_risen, .ref a_risenWays])), (a_often, .inl (cI, 512, .inl (fun _ => (0 : Int32))))] (fun (r : Int32) (u : va_W) => (u = [(m0, .inr (9, [.int i_thrown, .int i_told, .ref a_row, .ref a_tape, .int i_taped, .int i_at, .int i_to, .int 0, .ref a_number, .ref a_read, .int i_readMany, .ref a_readBits, .ref a_stands, .ref a_parted, .ref a_bitsWere, .ref a_stood, .ref a_chosen, .ref a_bestChosen, .int i_fewest, .ref a_often, .ref a_sorted, .int i_size, .ref a_risen, .ref a_risenWays])), (a_often, .inl (cI, 512, .inl (fun _ => (0 : Int32))))] ∧ r = 1 ∧ l9 = 0 ∧ r9 = 0 ∧ s9 = 0 ∧ t9 = 0) ∨ (u = [] ∧ r = 0 ∧ (l9.toInt < 0 ∨ r9.toInt < l9.toInt ∨ 0 < r9.toInt ∨ s9.toInt < 0 ∨ t9.toInt < s9.toInt ∨ 0 < t9.toInt))) := by
  refine ctI.of (cc := cX9_counts_) (maxL := 5) (ret := (some .boolean)) (by decide) rfl (Nat.le_of_ble_eq_true rfl) ?_
  intro p e s m below meth c ls A hx hb hr hts hown hml hlocks hname hA hK hN hP hD hS hl
  have hl : lv_has ls 5 [(0, .ref m0), (1, .int l9), (2, .int r9), (3, .int s9), (4, .int t9)] := hl
  have hown : s.vm.findClass RX9 = some m.cls := hown
  refine lv_aload_n hx hb dX9_counts__0 rfl (lv_at hl 0 rfl) ?_
  refine lv_iload_n hx hb dX9_counts__1 rfl (lv_at hl 1 rfl) ?_
  refine lv_iload_n hx hb dX9_counts__2 rfl (lv_at hl 2 rfl) ?_
  refine my_gpI (my_pV (As := [.int l9, .int r9]) (rest := []) (ci := 9) ⟨hx, hb, hml, hown, hts⟩ (cwV 2 hts gX9_counts__X9_isSpan rfl rfl rfl (by decide +kernel) ⟨Nat.le_of_ble_eq_true rfl, Nat.le_of_ble_eq_true rfl⟩) hN hK hP [0] rfl 0 rfl rfl rfl rfl hl.1 rfl (Nat.le_of_ble_eq_true rfl) dX9_counts__3 ⟨Nat.le_of_ble_eq_true rfl, Nat.le_of_ble_eq_true rfl⟩  (k0_X9_isSpan l D cI cJ m0 a_row a_tape a_number a_read a_readBits a_stands a_parted a_bitsWere a_stood a_chosen a_bestChosen a_often a_sorted a_risen a_risenWays i_thrown i_told i_taped i_at i_to i_readMany i_fewest i_size l9 r9)) (fun r hp => ?_)
  rcases hp with ⟨rfl, rfl, rfl⟩ | ⟨rfl, ha_1⟩
  ·
    refine lv_if_eq (tgt := 19) hx hb dX9_counts__6 (by decide) (fun c6 => ?_) (fun c6 => ?_)
    ·
      exact absurd c6 (by decide +kernel)
    ·
      refine lv_aload_n hx hb dX9_counts__9 rfl (lv_at hl 0 rfl) ?_
      refine lv_iload_n hx hb dX9_counts__10 rfl (lv_at hl 3 rfl) ?_
      refine lv_iload hx hb dX9_counts__11 (lv_at hl 4 rfl) ?_
      refine my_gpI (my_pV (As := [.int s9, .int t9]) (rest := []) (ci := 9) ⟨hx, hb, hml, hown, hts⟩ (cwV 2 hts gX9_counts__X9_isSpan rfl rfl rfl (by decide +kernel) ⟨Nat.le_of_ble_eq_true rfl, Nat.le_of_ble_eq_true rfl⟩) hN hK hP [0] rfl 0 rfl rfl rfl rfl hl.1 rfl (Nat.le_of_ble_eq_true rfl) dX9_counts__13 ⟨Nat.le_of_ble_eq_true rfl, Nat.le_of_ble_eq_true rfl⟩  (k0_X9_isSpan l D cI cJ m0 a_row a_tape a_number a_read a_readBits a_stands a_parted a_bitsWere a_stood a_chosen a_bestChosen a_often a_sorted a_risen a_risenWays i_thrown i_told i_taped i_at i_to i_readMany i_fewest i_size s9 t9)) (fun r hp => ?_)
      rcases hp with ⟨rfl, rfl, rfl⟩ | ⟨rfl, ha_2⟩
      ·
        refine lv_if_ne (tgt := 21) hx hb dX9_counts__16 (by decide) (fun c16 => ?_) (fun c16 => ?_)
        ·
          refine lv_aload_n hx hb dX9_counts__21 rfl (lv_at hl 0 rfl) ?_
          refine lv_iconst (v := 0) hx hb dX9_counts__22 (by decide +kernel) ?_
          refine lv_iload_n hx hb dX9_counts__23 rfl (lv_at hl 1 rfl) ?_
          refine lv_iload_n hx hb dX9_counts__24 rfl (lv_at hl 2 rfl) ?_
          refine my_goV (wr := []) hP hD hS hA [0, 1] [] rfl rfl (by decide) (by decide) (my_cV (As := [.int 0, .int 0, .int 0]) (rest := []) (ci := 9) (wc := [(m0, .inr (9, [.int i_thrown, .int i_told, .ref a_row, .ref a_tape, .int i_taped, .int i_at, .int i_to, .int 0, .ref a_number, .ref a_read, .int i_readMany, .ref a_readBits, .ref a_stands, .ref a_parted, .ref a_bitsWere, .ref a_stood, .ref a_chosen, .ref a_bestChosen, .int i_fewest, .ref a_often, .ref a_sorted, .int i_size, .ref a_risen, .ref a_risenWays])), (a_often, .inl (cI, 512, .inl (fun _ => (0 : Int32))))]) ⟨hx, hb, hml, hown, hts⟩ (cwV 3 hts gX9_counts__X9_counts rfl rfl rfl (by decide +kernel) ⟨Nat.le_of_ble_eq_true rfl, Nat.le_of_ble_eq_true rfl⟩) hN hK hP hD [0, 1] rfl (by decide) rfl 0 rfl rfl rfl rfl hl.1 rfl (Nat.le_of_ble_eq_true rfl) dX9_counts__25 ⟨Nat.le_of_ble_eq_true rfl, Nat.le_of_ble_eq_true rfl⟩  ((k0_X9_counts l D cI cJ m0 a_row a_tape a_number a_read a_readBits a_stands a_parted a_bitsWere a_stood a_chosen a_bestChosen a_often a_sorted a_risen a_risenWays i_thrown i_told i_taped i_at i_to (0 : Int32) i_readMany i_fewest i_size) _)) (fun u H locs hp hP hD hS => ?_)
          obtain rfl := hp
          have hP : va_P D vwCl [(m0, .inr (9, [.int i_thrown, .int i_told, .ref a_row, .ref a_tape, .int i_taped, .int i_at, .int i_to, .int 0, .ref a_number, .ref a_read, .int i_readMany, .ref a_readBits, .ref a_stands, .ref a_parted, .ref a_bitsWere, .ref a_stood, .ref a_chosen, .ref a_bestChosen, .int i_fewest, .ref a_often, .ref a_sorted, .int i_size, .ref a_risen, .ref a_risenWays])), (a_often, .inl (cI, 512, .inl (fun _ => (0 : Int32))))] H := hP
          have hD : va_D A [(m0, .inr (9, [.int i_thrown, .int i_told, .ref a_row, .ref a_tape, .int i_taped, .int i_at, .int i_to, .int 0, .ref a_number, .ref a_read, .int i_readMany, .ref a_readBits, .ref a_stands, .ref a_parted, .ref a_bitsWere, .ref a_stood, .ref a_chosen, .ref a_bestChosen, .int i_fewest, .ref a_often, .ref a_sorted, .int i_size, .ref a_risen, .ref a_risenWays])), (a_often, .inl (cI, 512, .inl (fun _ => (0 : Int32))))] := hD
          refine lv_aload_n hx hb dX9_counts__28 rfl (lv_at hl 0 rfl) ?_
          refine lv_iconst (v := 1) hx hb dX9_counts__29 (by decide +kernel) ?_
          refine lv_iload_n hx hb dX9_counts__30 rfl (lv_at hl 3 rfl) ?_
          refine lv_iload hx hb dX9_counts__31 (lv_at hl 4 rfl) ?_
          refine my_goV (wr := []) hP hD hS hA [0, 1] [] rfl rfl (by decide) (by decide) (my_cV (As := [.int 1, .int 0, .int 0]) (rest := []) (ci := 9) (wc := [(m0, .inr (9, [.int i_thrown, .int i_told, .ref a_row, .ref a_tape, .int i_taped, .int i_at, .int i_to, .int 0, .ref a_number, .ref a_read, .int i_readMany, .ref a_readBits, .ref a_stands, .ref a_parted, .ref a_bitsWere, .ref a_stood, .ref a_chosen, .ref a_bestChosen, .int i_fewest, .ref a_often, .ref a_sorted, .int i_size, .ref a_risen, .ref a_risenWays])), (a_often, .inl (cI, 512, .inl (fun _ => (0 : Int32))))]) ⟨hx, hb, hml, hown, hts⟩ (cwV 3 hts gX9_counts__X9_counts rfl rfl rfl (by decide +kernel) ⟨Nat.le_of_ble_eq_true rfl, Nat.le_of_ble_eq_true rfl⟩) hN hK hP hD [0, 1] rfl (by decide) rfl 0 rfl rfl rfl rfl hl.1 rfl (Nat.le_of_ble_eq_true rfl) dX9_counts__33 ⟨Nat.le_of_ble_eq_true rfl, Nat.le_of_ble_eq_true rfl⟩  ((k1_X9_counts l D cI cJ m0 a_row a_tape a_number a_read a_readBits a_stands a_parted a_bitsWere a_stood a_chosen a_bestChosen a_often a_sorted a_risen a_risenWays i_thrown i_told i_taped i_at i_to (0 : Int32) i_readMany i_fewest i_size) _)) (fun u H locs hp hP hD hS => ?_)
          obtain rfl := hp
          have hP : va_P D vwCl [(m0, .inr (9, [.int i_thrown, .int i_told, .ref a_row, .ref a_tape, .int i_taped, .int i_at, .int i_to, .int 0, .ref a_number, .ref a_read, .int i_readMany, .ref a_readBits, .ref a_stands, .ref a_parted, .ref a_bitsWere, .ref a_stood, .ref a_chosen, .ref a_bestChosen, .int i_fewest, .ref a_often, .ref a_sorted, .int i_size, .ref a_risen, .ref a_risenWays])), (a_often, .inl (cI, 512, .inl (fun _ => (0 : Int32))))] H := hP
          have hD : va_D A [(m0, .inr (9, [.int i_thrown, .int i_told, .ref a_row, .ref a_tape, .int i_taped, .int i_at, .int i_to, .int 0, .ref a_number, .ref a_read, .int i_readMany, .ref a_readBits, .ref a_stands, .ref a_parted, .ref a_bitsWere, .ref a_stood, .ref a_chosen, .ref a_bestChosen, .int i_fewest, .ref a_often, .ref a_sorted, .int i_size, .ref a_risen, .ref a_risenWays])), (a_often, .inl (cI, 512, .inl (fun _ => (0 : Int32))))] := hD
          refine lv_iconst (v := 1) hx hb dX9_counts__36 (by decide +kernel) ?_
          exact my_retZ hx hb hr hlocks (by decide +kernel) hK hS [(m0, .inr (9, [.int i_thrown, .int i_told, .ref a_row, .ref a_tape, .int i_taped, .int i_at, .int i_to, .int 0, .ref a_number, .ref a_read, .int i_readMany, .ref a_readBits, .ref a_stands, .ref a_parted, .ref a_bitsWere, .ref a_stood, .ref a_chosen, .ref a_bestChosen, .int i_fewest, .ref a_often, .ref a_sorted, .int i_size, .ref a_risen, .ref a_risenWays])), (a_often, .inl (cI, 512, .inl (fun _ => (0 : Int32))))] (hP.sub [0, 1] rfl) (hD.sub [0, 1] (by decide) rfl) (Or.inl ⟨rfl, rfl, (by first | rfl | exact my_eqI (a := 0) (by omega) (by decide +kernel)), (by first | rfl | exact my_eqI (a := 0) (by omega) (by decide +kernel)), (by first | rfl | exact my_eqI (a := 0) (by omega) (by decide +kernel)), (by first | rfl | exact my_eqI (a := 0) (by omega) (by decide +kernel))⟩) dX9_counts__37
        ·
          exact absurd c16 (by decide +kernel)
      ·
        refine lv_if_ne (tgt := 21) hx hb dX9_counts__16 (by decide) (fun c16 => ?_) (fun c16 => ?_)
        ·
          exact absurd c16 (by decide +kernel)
        ·
          refine lv_iconst (v := 0) hx hb dX9_counts__19 (by decide +kernel) ?_
          exact my_retZ hx hb hr hlocks (by decide +kernel) hK hS [] (hP.sub [] rfl) (hD.sub [] (by decide) rfl) (Or.inr (⟨rfl, rfl, (by first | omega | assumption | trivial | decide +kernel)⟩)) dX9_counts__20
  ·
    refine lv_if_eq (tgt := 19) hx hb dX9_counts__6 (by decide) (fun c6 => ?_) (fun c6 => ?_)
    ·
      refine lv_iconst (v := 0) hx hb dX9_counts__19 (by decide +kernel) ?_
      exact my_retZ hx hb hr hlocks (by decide +kernel) hK hS [] (hP.sub [] rfl) (hD.sub [] (by decide) rfl) (Or.inr (⟨rfl, rfl, (by first | omega | assumption | trivial | decide +kernel)⟩)) dX9_counts__20
    ·
      exact absurd c6 (by decide +kernel)
set_option maxHeartbeats 4000000 in
set_option maxRecDepth 100000 in
theorem k0_X9_unlike (l : Launch) (D : va_G) (cI cJ : ClassId) (m0 : Nat) (a_row : Nat) (a_tape : Nat) (a_number : Nat) (a_read : Nat) (a_readBits : Nat) (a_stands : Nat) (a_parted : Nat) (a_bitsWere : Nat) (a_stood : Nat) (a_chosen : Nat) (a_bestChosen : Nat) (a_often : Nat) (a_sorted : Nat) (a_risen : Nat) (a_risenWays : Nat) (i_thrown : Int32) (i_told : Int32) (i_taped : Int32) (i_at : Int32) (i_to : Int32) (i_readMany : Int32) (i_fewest : Int32) (i_size : Int32) : ctI l yX9_unlike wsX9_unlike ({ frames := 1, cells := 0, slots := 0, locals := 60 } : Room) D (tyIJ cI cJ) [.ref m0] [(m0, .inr (9, [.int i_thrown, .int i_told, .ref a_row, .ref a_tape, .int i_taped, .int i_at, .int i_to, .int 0, .ref a_number, .ref a_read, .int i_readMany, .ref a_readBits, .ref a_stands, .ref a_parted, .ref a_bitsWere, .ref a_stood, .ref a_chosen, .ref a_bestChosen, .int i_fewest, .ref a_often, .ref a_sorted, .int i_size, .ref a_risen, .ref a_risenWays])), (a_often, .inl (cI, 512, .inl (fun _ => (0 : Int32))))] (fun (r : Int32) (u : va_W) => u = [] ∧ r = 0) := by
  refine ctI.of (cc := cX9_unlike) (maxL := 3) (ret := (some .int)) (by decide) rfl (Nat.le_of_ble_eq_true rfl) ?_
  intro p e s m below meth c ls A hx hb hr hts hown hml hlocks hname hA hK hN hP hD hS hl
  have hl : lv_has ls 3 [(0, .ref m0)] := hl
  have hown : s.vm.findClass RX9 = some m.cls := hown
  have hi9 : ∀ w ∈ u_ws RX9 TX9 24, w ∈ wsX9_unlike := by decide +kernel
  have fl88 := hts (.fieldLink RX9 88 "PlaneColumnModel" "many" "I") (by decide +kernel)
  refine lv_aload_n hx hb dX9_unlike_0 rfl (lv_at hl 0 rfl) ?_
  refine lv_iconst (v := 0) hx hb dX9_unlike_1 (by decide +kernel) ?_
  refine lv_iconst (v := 0) hx hb dX9_unlike_2 (by decide +kernel) ?_
  refine lv_aload_n hx hb dX9_unlike_3 rfl (lv_at hl 0 rfl) ?_
  refine va_get (ci := 9) (v := .int 0) (C := RX9) (T := TX9) (N := 24) hx hb hts hi9 hown hK hP 0 rfl rfl 7 (by decide) fl88 (fun _ h9 => h9) rfl dX9_unlike_4 ?_
  refine my_goV (wr := []) hP hD hS hA [0, 1] [] rfl rfl (by decide) (by decide) (my_cV (As := [.int 0, .int 0, .int 0]) (rest := []) (ci := 9) (wc := [(m0, .inr (9, [.int i_thrown, .int i_told, .ref a_row, .ref a_tape, .int i_taped, .int i_at, .int i_to, .int 0, .ref a_number, .ref a_read, .int i_readMany, .ref a_readBits, .ref a_stands, .ref a_parted, .ref a_bitsWere, .ref a_stood, .ref a_chosen, .ref a_bestChosen, .int i_fewest, .ref a_often, .ref a_sorted, .int i_size, .ref a_risen, .ref a_risenWays])), (a_often, .inl (cI, 512, .inl (fun _ => (0 : Int32))))]) ⟨hx, hb, hml, hown, hts⟩ (cwV 3 hts gX9_unlike_X9_counts rfl rfl rfl (by decide +kernel) ⟨Nat.le_of_ble_eq_true rfl, Nat.le_of_ble_eq_true rfl⟩) hN hK hP hD [0, 1] rfl (by decide) rfl 0 rfl rfl rfl rfl hl.1 rfl (Nat.le_of_ble_eq_true rfl) dX9_unlike_7 ⟨Nat.le_of_ble_eq_true rfl, Nat.le_of_ble_eq_true rfl⟩  ((k0_X9_counts l D cI cJ m0 a_row a_tape a_number a_read a_readBits a_stands a_parted a_bitsWere a_stood a_chosen a_bestChosen a_often a_sorted a_risen a_risenWays i_thrown i_told i_taped i_at i_to (0 : Int32) i_readMany i_fewest i_size) _)) (fun u H locs hp hP hD hS => ?_)
  obtain rfl := hp
  have hP : va_P D vwCl [(m0, .inr (9, [.int i_thrown, .int i_told, .ref a_row, .ref a_tape, .int i_taped, .int i_at, .int i_to, .int 0, .ref a_number, .ref a_read, .int i_readMany, .ref a_readBits, .ref a_stands, .ref a_parted, .ref a_bitsWere, .ref a_stood, .ref a_chosen, .ref a_bestChosen, .int i_fewest, .ref a_often, .ref a_sorted, .int i_size, .ref a_risen, .ref a_risenWays])), (a_often, .inl (cI, 512, .inl (fun _ => (0 : Int32))))] H := hP
  have hD : va_D A [(m0, .inr (9, [.int i_thrown, .int i_told, .ref a_row, .ref a_tape, .int i_taped, .int i_at, .int i_to, .int 0, .ref a_number, .ref a_read, .int i_readMany, .ref a_readBits, .ref a_stands, .ref a_parted, .ref a_bitsWere, .ref a_stood, .ref a_chosen, .ref a_bestChosen, .int i_fewest, .ref a_often, .ref a_sorted, .int i_size, .ref a_risen, .ref a_risenWays])), (a_often, .inl (cI, 512, .inl (fun _ => (0 : Int32))))] := hD
  refine lv_iconst (v := 0) hx hb dX9_unlike_10 (by decide +kernel) ?_
  refine lv_istore_n (lv' := [(1, .int 0), (0, .ref m0)]) hx hb dX9_unlike_11 rfl hl (by decide) rfl (fun ls hl => ?_)
  refine lv_iconst (v := 0) hx hb dX9_unlike_12 (by decide +kernel) ?_
  refine lv_istore_n (lv' := [(2, .int 0), (1, .int 0), (0, .ref m0)]) hx hb dX9_unlike_13 rfl hl (by decide) rfl (fun ls hl => ?_)
  have loop14 : ∀ (n9 : Nat) (k : Nat), 256 - k < n9 → (k ≤ 256) → ∀ (H : Heap) (locs : List Loc) (ls : Array Slot), va_P D vwCl [(m0, .inr (9, [.int i_thrown, .int i_told, .ref a_row, .ref a_tape, .int i_taped, .int i_at, .int i_to, .int 0, .ref a_number, .ref a_read, .int i_readMany, .ref a_readBits, .ref a_stands, .ref a_parted, .ref a_bitsWere, .ref a_stood, .ref a_chosen, .ref a_bestChosen, .int i_fewest, .ref a_often, .ref a_sorted, .int i_size, .ref a_risen, .ref a_risenWays])), (a_often, .inl (cI, 512, .inl (fun _ => (0 : Int32))))] H → va_D A [(m0, .inr (9, [.int i_thrown, .int i_told, .ref a_row, .ref a_tape, .int i_taped, .int i_at, .int i_to, .int 0, .ref a_number, .ref a_read, .int i_readMany, .ref a_readBits, .ref a_stands, .ref a_parted, .ref a_bitsWere, .ref a_stood, .ref a_chosen, .ref a_bestChosen, .int i_fewest, .ref a_often, .ref a_sorted, .int i_size, .ref a_risen, .ref a_risenWays])), (a_often, .inl (cI, 512, .inl (fun _ => (0 : Int32))))] → va_S A s.heap H locs → lv_has ls 3 [(2, .int (nI k)), (1, .int 0), (0, .ref m0)] → W p l e ({ frames := 1, cells := 0, slots := 0, locals := 60 } : Room) s m [.ref m0].toArray below meth c H locs 0 0 (MQ below (va_Qi (fun (r : Int32) (u : va_W) => u = [] ∧ r = 0) (my_B D (tyIJ cI cJ) A) A) [.ref m0].toArray s 0 0 A) (F0 m 14 ls []) := by
    intro n9
    induction n9 with
    | zero =>
      intro k hn9
      exact absurd hn9 (Nat.not_lt_zero _)
    | succ n9 ih14 =>
      intro k hn9 hk H locs ls hP hD hS hl
      refine lv_iload_n hx hb dX9_unlike_14 rfl (lv_at hl 0 rfl) ?_
      refine lv_sipush (v := 256) hx hb dX9_unlike_15 (by decide +kernel) ?_
      refine lv_icmp_ge (tgt := 47) hx hb dX9_unlike_18 (by decide) (fun c18 => ?_) (fun c18 => ?_)
      ·
        have d18 : ((k : Nat) : Int) ≥ (256 : Int) := my_ge c18 (nI_toInt (by omega)) (by decide +kernel)
        refine lv_iload_n hx hb dX9_unlike_47 rfl (lv_at hl 1 rfl) ?_
        exact my_retI hx hb hr hlocks hK hS [] (hP.sub [] rfl) (hD.sub [] (by decide) rfl) (⟨rfl, rfl⟩) dX9_unlike_48
      ·
        have d18 : ((k : Nat) : Int) < (256 : Int) := my_nge c18 (nI_toInt (by omega)) (by decide +kernel)
        refine lv_iload_n hx hb dX9_unlike_21 rfl (lv_at hl 1 rfl) ?_
        refine lv_aload_n hx hb dX9_unlike_22 rfl (lv_at hl 2 rfl) ?_
        refine lv_iconst (v := 0) hx hb dX9_unlike_23 (by decide +kernel) ?_
        refine lv_iload_n hx hb dX9_unlike_24 rfl (lv_at hl 0 rfl) ?_
        refine my_gpI (my_pV (As := [.int 0, .int (nI k)]) (rest := [.int 0]) (ci := 9) ⟨hx, hb, hml, hown, hts⟩ (cwV 2 hts gX9_unlike_X9_times rfl rfl rfl (by decide +kernel) ⟨Nat.le_of_ble_eq_true rfl, Nat.le_of_ble_eq_true rfl⟩) hN hK hP [0, 1] rfl 0 rfl rfl rfl rfl hl.1 rfl (Nat.le_of_ble_eq_true rfl) dX9_unlike_25 ⟨Nat.le_of_ble_eq_true rfl, Nat.le_of_ble_eq_true rfl⟩  (k0_X9_times l D cI cJ m0 a_row a_tape a_number a_read a_readBits a_stands a_parted a_bitsWere a_stood a_chosen a_bestChosen a_often a_sorted a_risen a_risenWays i_thrown i_told i_taped i_at i_to (0 : Int32) i_readMany i_fewest i_size (nI k) (by rw [nI_toInt (by omega)]; omega) (by rw [nI_toInt (by omega)]; omega))) (fun r hp => ?_)
        obtain rfl := hp
        refine lv_if_le (tgt := 35) hx hb dX9_unlike_28 (by decide) (fun c28 => ?_) (fun c28 => ?_)
        ·
          refine lv_iconst (v := 0) hx hb dX9_unlike_35 (by decide +kernel) ?_
          refine my_gpI (my_pS (As := [.int 0]) (rest := [.int 0]) ⟨hx, hb, hml, hown, hts⟩ (va_cwS 1 hts gX9_unlike_X9_flag rfl rfl rfl (by decide +kernel) ⟨Nat.le_of_ble_eq_true rfl, Nat.le_of_ble_eq_true rfl⟩) hN hK hP [] rfl rfl hl.1 rfl (Nat.le_of_ble_eq_true rfl) dX9_unlike_36 ⟨Nat.le_of_ble_eq_true rfl, Nat.le_of_ble_eq_true rfl⟩  (k0_X9_flag l D cI cJ )) (fun r hp => ?_)
          obtain rfl := hp
          refine lv_iadd hx hb dX9_unlike_39 ?_
          refine my_eqi (y := 0) (by decide +kernel) ?_
          refine lv_istore_n (lv' := [(1, .int 0), (2, .int (nI k)), (0, .ref m0)]) hx hb dX9_unlike_40 rfl hl (by decide) rfl (fun ls hl => ?_)
          refine lv_iinc (v := nI (k + 1)) (lv' := [(2, .int (nI (k + 1))), (1, .int 0), (0, .ref m0)]) hx hb dX9_unlike_41 hl (k := 1) rfl (my_incN k 1 (by decide +kernel)) (by decide) rfl (fun ls hl => ?_)
          refine lv_goto (tgt := 14) hx hb dX9_unlike_44 (by decide) ?_
          exact ih14  (k + 1) (by omega) (by omega) _ _ ls (hP.sub [0, 1] rfl) (hD.sub [0, 1] (by decide) rfl) hS (lv_sub hl [0, 1, 2] rfl)
        ·
          exact absurd c28 (by decide +kernel)
  exact loop14 ((256 - 0) + 1) 0 (Nat.lt_succ_self _) (by first | omega | decide +kernel) _ _ ls (hP.sub [0, 1] rfl) (hD.sub [0, 1] (by decide) rfl) hS (lv_sub hl [0, 1, 2] rfl)
set_option maxHeartbeats 4000000 in
set_option maxRecDepth 100000 in
theorem k0_X9_together (l : Launch) (D : va_G) (cI cJ : ClassId) (m0 : Nat) (a_row : Nat) (a_tape : Nat) (a_number : Nat) (a_read : Nat) (a_readBits : Nat) (a_stands : Nat) (a_parted : Nat) (a_bitsWere : Nat) (a_stood : Nat) (a_chosen : Nat) (a_bestChosen : Nat) (a_often : Nat) (a_sorted : Nat) (a_risen : Nat) (a_risenWays : Nat) (i_thrown : Int32) (i_told : Int32) (i_taped : Int32) (i_at : Int32) (i_to : Int32) (i_readMany : Int32) (i_fewest : Int32) (i_size : Int32) : cpI l yX9_together wsX9_together ({ frames := 0, cells := 0, slots := 0, locals := 0 } : Room) D (tyIJ cI cJ) [.ref m0, .int 0] [(m0, .inr (9, [.int i_thrown, .int i_told, .ref a_row, .ref a_tape, .int i_taped, .int i_at, .int i_to, .int 0, .ref a_number, .ref a_read, .int i_readMany, .ref a_readBits, .ref a_stands, .ref a_parted, .ref a_bitsWere, .ref a_stood, .ref a_chosen, .ref a_bestChosen, .int i_fewest, .ref a_often, .ref a_sorted, .int i_size, .ref a_risen, .ref a_risenWays]))] (fun (r : Int32) => r = 0) := by
  refine cpI.of (cc := cX9_together) (maxL := 4) (ret := (some .int)) (by decide) rfl (Nat.le_of_ble_eq_true rfl) ?_
  intro p e s m below meth c ls hx hb hr hts hown hml hlocks hname hK hN hP hl
  have hl : lv_has ls 4 [(0, .ref m0), (1, .int 0)] := hl
  have hown : s.vm.findClass RX9 = some m.cls := hown
  have hi9 : ∀ w ∈ u_ws RX9 TX9 24, w ∈ wsX9_together := by decide +kernel
  have fl88 := hts (.fieldLink RX9 88 "PlaneColumnModel" "many" "I") (by decide +kernel)
  refine lv_iconst (v := 0) hx hb dX9_together_0 (by decide +kernel) ?_
  refine lv_istore_n (lv' := [(2, .int 0), (0, .ref m0), (1, .int 0)]) hx hb dX9_together_1 rfl hl (by decide) rfl (fun ls hl => ?_)
  refine lv_iconst (v := 0) hx hb dX9_together_2 (by decide +kernel) ?_
  refine lv_istore_n (lv' := [(3, .int 0), (2, .int 0), (0, .ref m0), (1, .int 0)]) hx hb dX9_together_3 rfl hl (by decide) rfl (fun ls hl => ?_)
  refine lv_iload_n hx hb dX9_together_4 rfl (lv_at hl 0 rfl) ?_
  refine lv_aload_n hx hb dX9_together_5 rfl (lv_at hl 2 rfl) ?_
  refine va_get (ci := 9) (v := .int 0) (C := RX9) (T := TX9) (N := 24) hx hb hts hi9 hown hK hP 0 rfl rfl 7 (by decide) fl88 (fun _ h9 => h9) rfl dX9_together_6 ?_
  refine lv_icmp_ge (tgt := 43) hx hb dX9_together_9 (by decide) (fun c9 => ?_) (fun c9 => ?_)
  ·
    refine lv_iload_n hx hb dX9_together_43 rfl (lv_at hl 1 rfl) ?_
    exact my_rpI hx hb hr hlocks (rfl) dX9_together_44
  ·
    exact absurd c9 (by decide +kernel)
set_option maxHeartbeats 4000000 in
set_option maxRecDepth 100000 in
theorem k1_X9_together (l : Launch) (D : va_G) (cI cJ : ClassId) (m0 : Nat) (a_row : Nat) (a_tape : Nat) (a_number : Nat) (a_read : Nat) (a_readBits : Nat) (a_stands : Nat) (a_parted : Nat) (a_bitsWere : Nat) (a_stood : Nat) (a_chosen : Nat) (a_bestChosen : Nat) (a_often : Nat) (a_sorted : Nat) (a_risen : Nat) (a_risenWays : Nat) (i_thrown : Int32) (i_told : Int32) (i_taped : Int32) (i_at : Int32) (i_to : Int32) (i_readMany : Int32) (i_fewest : Int32) (i_size : Int32) : cpI l yX9_together wsX9_together ({ frames := 0, cells := 0, slots := 0, locals := 0 } : Room) D (tyIJ cI cJ) [.ref m0, .int 1] [(m0, .inr (9, [.int i_thrown, .int i_told, .ref a_row, .ref a_tape, .int i_taped, .int i_at, .int i_to, .int 0, .ref a_number, .ref a_read, .int i_readMany, .ref a_readBits, .ref a_stands, .ref a_parted, .ref a_bitsWere, .ref a_stood, .ref a_chosen, .ref a_bestChosen, .int i_fewest, .ref a_often, .ref a_sorted, .int i_size, .ref a_risen, .ref a_risenWays]))] (fun (r : Int32) => r = 0) := by
  refine cpI.of (cc := cX9_together) (maxL := 4) (ret := (some .int)) (by decide) rfl (Nat.le_of_ble_eq_true rfl) ?_
  intro p e s m below meth c ls hx hb hr hts hown hml hlocks hname hK hN hP hl
  have hl : lv_has ls 4 [(0, .ref m0), (1, .int 1)] := hl
  have hown : s.vm.findClass RX9 = some m.cls := hown
  have hi9 : ∀ w ∈ u_ws RX9 TX9 24, w ∈ wsX9_together := by decide +kernel
  have fl88 := hts (.fieldLink RX9 88 "PlaneColumnModel" "many" "I") (by decide +kernel)
  refine lv_iconst (v := 0) hx hb dX9_together_0 (by decide +kernel) ?_
  refine lv_istore_n (lv' := [(2, .int 0), (0, .ref m0), (1, .int 1)]) hx hb dX9_together_1 rfl hl (by decide) rfl (fun ls hl => ?_)
  refine lv_iconst (v := 0) hx hb dX9_together_2 (by decide +kernel) ?_
  refine lv_istore_n (lv' := [(3, .int 0), (2, .int 0), (0, .ref m0), (1, .int 1)]) hx hb dX9_together_3 rfl hl (by decide) rfl (fun ls hl => ?_)
  refine lv_iload_n hx hb dX9_together_4 rfl (lv_at hl 0 rfl) ?_
  refine lv_aload_n hx hb dX9_together_5 rfl (lv_at hl 2 rfl) ?_
  refine va_get (ci := 9) (v := .int 0) (C := RX9) (T := TX9) (N := 24) hx hb hts hi9 hown hK hP 0 rfl rfl 7 (by decide) fl88 (fun _ h9 => h9) rfl dX9_together_6 ?_
  refine lv_icmp_ge (tgt := 43) hx hb dX9_together_9 (by decide) (fun c9 => ?_) (fun c9 => ?_)
  ·
    refine lv_iload_n hx hb dX9_together_43 rfl (lv_at hl 1 rfl) ?_
    exact my_rpI hx hb hr hlocks (rfl) dX9_together_44
  ·
    exact absurd c9 (by decide +kernel)
