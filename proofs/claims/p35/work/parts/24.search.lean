abbrev wl_k_X2_forget (cI cJ cK : ClassId) (xr : Nat) (r1 : Nat) (r2 : Nat) (r3 : Nat) (r4 : Nat) (r5 : Nat) (v0_ : Int32) (v1_ : Int32) (v2_ : Int32) (v3_ : Int32) : va_W := [(xr, .inr (2, [.ref r1, .ref r2, .ref r3, .ref r4, .ref r5, .int v0_, .int v1_, .int v2_, .int v3_]))]
set_option maxHeartbeats 4000000 in
set_option maxRecDepth 100000 in
theorem k_X2_forget (l : Launch) (D : va_G) (cI cJ cK : ClassId) (xr : Nat) (r1 : Nat) (r2 : Nat) (r3 : Nat) (r4 : Nat) (r5 : Nat) (rz : Nat) (rv : Nat) (rw : Int32) (rk : Int32) (hz_rz : rz ≤ 64) (hz_rv : rv ≤ 8) : ctV l yX2_forget wsX2_forget ({ frames := 0, cells := 0, slots := 0, locals := 0 } : Room) D (tyIJ cI cJ cK) [.ref xr] (wl_k_X2_forget cI cJ cK xr r1 r2 r3 r4 r5 (nI rz) (nI rv) rw rk) (fun (u : va_W) => ∃ (rz' : Nat) (rv' : Nat) (rw' : Int32) (rk' : Int32), u = (wl_k_X2_forget cI cJ cK xr r1 r2 r3 r4 r5 (nI rz') (nI rv') rw' rk') ∧ rz' ≤ 64 ∧ rv' ≤ 8) := by
  refine ctV.of (cc := cX2_forget) (maxL := 1) (ret := none) (by decide) rfl (Nat.le_of_ble_eq_true rfl) ?_
  intro p e s m below meth c ls A hx hb hr hts hown hml hlocks hname hA hK hN hP hD hS hl
  have hl : lv_has ls 1 [(0, .ref xr)] := hl
  have hown : s.vm.findClass RX2 = some m.cls := hown
  have hi2 : ∀ w ∈ u_ws RX2 TX2 9, w ∈ wsX2_forget := by decide +kernel
  have fl40 := hts (.fieldLink RX2 40 "PlaneColumn$OrderSearch" "known" "Z") (by decide +kernel)
  refine lv_aload_n hx hb dX2_forget_0 rfl (lv_at hl 0 rfl) ?_
  refine lv_iconst (v := 0) hx hb dX2_forget_1 (by decide +kernel) ?_
  refine va_put (ci := 2) (v := .int 0) (ty := (.boolean)) (C := RX2) (T := TX2) (N := 9) hx hb hts hi2 tyX2 tyX2_ok nmX2 hown hK hP hD hS 0 rfl rfl 8 (by decide) fl40 (fun _ h9 => h9) rfl (by decide +kernel) (by decide +kernel) (by decide +kernel) (Nat.le_of_ble_eq_true rfl) dX2_forget_2 (fun H locs hP hD hS => ?_)
  have hP : va_P D vwCl (wl_k_X2_forget cI cJ cK xr r1 r2 r3 r4 r5 (nI rz) (nI rv) rw 0) H := hP
  have hD : va_D A (wl_k_X2_forget cI cJ cK xr r1 r2 r3 r4 r5 (nI rz) (nI rv) rw 0) := hD
  exact my_retV hx hb hr hlocks hK hS (wl_k_X2_forget cI cJ cK xr r1 r2 r3 r4 r5 (nI rz) (nI rv) rw 0) hP hD (⟨rz, rv, rw, 0, rfl, (by first | assumption | omega | trivial | decide +kernel), (by first | assumption | omega | trivial | decide +kernel)⟩) dX2_forget_5
set_option maxHeartbeats 4000000 in
set_option maxRecDepth 100000 in
theorem k_X2_lanesOf (l : Launch) (D : va_G) (cI cJ cK : ClassId) (v9 : Int32) : cpL l yX2_lanesOf wsX2_lanesOf ({ frames := 0, cells := 0, slots := 0, locals := 0 } : Room) D (tyIJ cI cJ cK) [.int v9] [] (fun (r : Int64) => True) := by
  refine cpL.of (cc := cX2_lanesOf) (maxL := 4) (ret := (some .long)) (by decide) rfl (Nat.le_of_ble_eq_true rfl) ?_
  intro p e s m below meth c ls hx hb hr hts hown hml hlocks hname hK hN hP hl
  have hl : lv_has ls 4 [(0, .int v9)] := hl
  have hown : s.vm.findClass RX2 = some m.cls := hown
  refine lv_lconst (v := 0) hx hb dX2_lanesOf_0 (by decide +kernel) ?_
  refine lv_lstore_n (lv' := [(1, .long 0), (0, .int v9)]) hx hb dX2_lanesOf_1 rfl hl (by decide) rfl (fun ls hl => ?_)
  refine lv_iconst (v := 0) hx hb dX2_lanesOf_2 (by decide +kernel) ?_
  refine lv_istore_n (lv' := [(3, .int 0), (1, .long 0), (0, .int v9)]) hx hb dX2_lanesOf_3 rfl hl (by decide) rfl (fun ls hl => ?_)
  have loop4 : ∀ (n9 : Nat) (k : Nat) (y1_4 : Int64), 8 - k < n9 → (k ≤ 8) → ∀ (ls : Array Slot), lv_has ls 4 [(3, .int (nI k)), (1, .long y1_4), (0, .int v9)] → W p l e ({ frames := 0, cells := 0, slots := 0, locals := 0 } : Room) s m [.int v9].toArray below meth c s.heap [] 0 0 (MQ below (vp_Sl (fun (r : Int64) => True)) [.int v9].toArray s 0 0 (fun _ => False)) (F0 m 4 ls []) := by
    intro n9
    induction n9 with
    | zero =>
      intro k y1_4 hn9
      exact absurd hn9 (Nat.not_lt_zero _)
    | succ n9 ih4 =>
      intro k y1_4 hn9 hk_k ls hl
      refine lv_iload_n hx hb dX2_lanesOf_4 rfl (lv_at hl 0 rfl) ?_
      refine lv_bipush (v := 8) hx hb dX2_lanesOf_5 (by decide +kernel) ?_
      refine lv_icmp_ge (tgt := 30) hx hb dX2_lanesOf_7 (by decide) (fun c7 => ?_) (fun c7 => ?_)
      ·
        have d7 : ((k : Nat) : Int) ≥ (8 : Int) := my_ge c7 (nI_toInt (by omega)) (by decide +kernel)
        refine lv_lload_n hx hb dX2_lanesOf_30 rfl (lv_at hl 1 rfl) ?_
        exact my_rpL hx hb hr hlocks (trivial) dX2_lanesOf_31
      ·
        have d7 : ((k : Nat) : Int) < (8 : Int) := my_nge c7 (nI_toInt (by omega)) (by decide +kernel)
        refine lv_lload_n hx hb dX2_lanesOf_10 rfl (lv_at hl 1 rfl) ?_
        refine lv_iload_n hx hb dX2_lanesOf_11 rfl (lv_at hl 2 rfl) ?_
        refine lv_iload_n hx hb dX2_lanesOf_12 rfl (lv_at hl 0 rfl) ?_
        refine lv_ishr hx hb dX2_lanesOf_13 ?_
        refine lv_topi (fun z_1 ez_1 => ?_)
        try have hbz_1 : 0 ≤ z_1.toInt ∧ z_1.toInt ≤ v9.toInt := by rw [ez_1]; exact my_shrR  (by omega) (by omega)
        refine lv_iconst (v := 1) hx hb dX2_lanesOf_14 (by decide +kernel) ?_
        refine lv_iand hx hb dX2_lanesOf_15 ?_
        refine lv_topi (fun z_2 ez_2 => ?_)
        have hbz_2 : 0 ≤ z_2.toInt ∧ z_2.toInt ≤ 1 := by rw [ez_2]; exact my_andR (by decide +kernel) (by decide +kernel)
        refine lv_i2l (v := z_2.toInt64) hx hb dX2_lanesOf_16 rfl ?_
        refine lv_bipush (v := 8) hx hb dX2_lanesOf_17 (by decide +kernel) ?_
        refine lv_iload_n hx hb dX2_lanesOf_19 rfl (lv_at hl 0 rfl) ?_
        refine lv_imul hx hb dX2_lanesOf_20 ?_
        refine my_eqi (y := nI (8 * k)) (my_mulN _ _) ?_
        refine lv_lshl hx hb dX2_lanesOf_21 rfl ?_
        refine lv_topl (fun z_3 ez_3 => ?_)
        refine lv_lor hx hb dX2_lanesOf_22 ?_
        refine lv_topl (fun z_4 ez_4 => ?_)
        refine lv_lstore_n (lv' := [(1, .long z_4), (3, .int (nI k)), (0, .int v9)]) hx hb dX2_lanesOf_23 rfl hl (by decide) rfl (fun ls hl => ?_)
        refine lv_iinc (v := nI (k + 1)) (lv' := [(3, .int (nI (k + 1))), (1, .long z_4), (0, .int v9)]) hx hb dX2_lanesOf_24 hl (k := 1) rfl (my_incN k 1 (by decide +kernel)) (by decide) rfl (fun ls hl => ?_)
        refine lv_goto (tgt := 4) hx hb dX2_lanesOf_27 (by decide) ?_
        exact ih4  (k + 1) z_4 (by omega) (by first | assumption | omega | decide +kernel) ls (lv_sub hl [0, 1, 2] rfl)
  have ec_5 : (0 : Int64).toInt = 0 := by decide +kernel
  exact loop4 ((8 - 0) + 1) 0 (0 : Int64) (Nat.lt_succ_self _) (by first | assumption | omega | decide +kernel) ls (lv_sub hl [0, 1, 2] rfl)
abbrev wl_k_X2_takeLine (cI cJ cK : ClassId) (xr : Nat) (r1 : Nat) (r2 : Nat) (r3 : Nat) (r4 : Nat) (r5 : Nat) (w0 : Nat) (w1 : Nat) (w2 : Nat) (w3 : Nat) (w4 : Nat) (w5 : Nat) (w6 : Nat) (w7 : Nat) (xn : Nat) (v0_ : Int32) (v1_ : Int32) (v2_ : Int32) (v3_ : Int32) (v4_ : Nat → Int64) (v5_ : Nat → Int32) : va_W := [(xr, .inr (2, [.ref r1, .ref r2, .ref r3, .ref r4, .ref r5, .int v0_, .int v1_, .int v2_, .int v3_])), (r1, .inl (cK, 8, .inr (.inr (.inr (.inr (fun j => ([w0, w1, w2, w3, w4, w5, w6, w7] : List Nat)[j]?)))))), (w0, .inl (cJ, 64, .inr (.inl v4_))), (xn, .inl (cI, 64, .inl v5_))]
set_option maxHeartbeats 4000000 in
set_option maxRecDepth 100000 in
theorem k_X2_takeLine (l : Launch) (D : va_G) (cI cJ cK : ClassId) (xr : Nat) (r1 : Nat) (r2 : Nat) (r3 : Nat) (r4 : Nat) (r5 : Nat) (w0 : Nat) (w1 : Nat) (w2 : Nat) (w3 : Nat) (w4 : Nat) (w5 : Nat) (w6 : Nat) (w7 : Nat) (xn : Nat) (rz : Nat) (rv : Nat) (rw : Int32) (rk : Int32) (wf0 : Nat → Int64) (nf : Nat → Int32) (hz_rz : rz ≤ 64) (hz_rv : rv ≤ 8) (hR_nf : RB 0 255 nf) : ctI l yX2_takeLine wsX2_takeLine ({ frames := 1, cells := 0, slots := 0, locals := 60 } : Room) D (tyIJ cI cJ cK) [.ref xr, .ref xn] (wl_k_X2_takeLine cI cJ cK xr r1 r2 r3 r4 r5 w0 w1 w2 w3 w4 w5 w6 w7 xn (nI rz) (nI rv) rw rk wf0 nf) (fun (r : Int32) (u : va_W) => ∃ (wf0' : Nat → Int64), u = (wl_k_X2_takeLine cI cJ cK xr r1 r2 r3 r4 r5 w0 w1 w2 w3 w4 w5 w6 w7 xn (nI rz) (nI rv) rw rk wf0' nf) ∧ 0 ≤ r.toInt ∧ r.toInt ≤ 255) := by
  refine ctI.of (cc := cX2_takeLine) (maxL := 4) (ret := (some .int)) (by decide) rfl (Nat.le_of_ble_eq_true rfl) ?_
  intro p e s m below meth c ls A hx hb hr hts hown hml hlocks hname hA hK hN hP hD hS hl
  have hl : lv_has ls 4 [(0, .ref xr), (1, .ref xn)] := hl
  have hown : s.vm.findClass RX2 = some m.cls := hown
  have hi2 : ∀ w ∈ u_ws RX2 TX2 9, w ∈ wsX2_takeLine := by decide +kernel
  have fl11 := hts (.fieldLink RX2 11 "PlaneColumn$OrderSearch" "lines" "[[J") (by decide +kernel)
  have fl30 := hts (.fieldLink RX2 30 "PlaneColumn$OrderSearch" "size" "I") (by decide +kernel)
  refine lv_iconst (v := 0) hx hb dX2_takeLine_0 (by decide +kernel) ?_
  refine lv_istore_n (lv' := [(2, .int 0), (0, .ref xr), (1, .ref xn)]) hx hb dX2_takeLine_1 rfl hl (by decide) rfl (fun ls hl => ?_)
  refine lv_iconst (v := 0) hx hb dX2_takeLine_2 (by decide +kernel) ?_
  refine lv_istore_n (lv' := [(3, .int 0), (2, .int 0), (0, .ref xr), (1, .ref xn)]) hx hb dX2_takeLine_3 rfl hl (by decide) rfl (fun ls hl => ?_)
  have loop4 : ∀ (n9 : Nat) (k : Nat) (x : Int32) (w0_4 : Nat → Int64), rz - k < n9 → (k ≤ rz) → (0 ≤ x.toInt) → (x.toInt ≤ 255) → ∀ (H : Heap) (locs : List Loc) (ls : Array Slot), va_P D vwCl (wl_k_X2_takeLine cI cJ cK xr r1 r2 r3 r4 r5 w0 w1 w2 w3 w4 w5 w6 w7 xn (nI rz) (nI rv) rw rk w0_4 nf) H → va_D A (wl_k_X2_takeLine cI cJ cK xr r1 r2 r3 r4 r5 w0 w1 w2 w3 w4 w5 w6 w7 xn (nI rz) (nI rv) rw rk w0_4 nf) → va_S A s.heap H locs → lv_has ls 4 [(3, .int (nI k)), (2, .int x), (0, .ref xr), (1, .ref xn)] → W p l e ({ frames := 1, cells := 0, slots := 0, locals := 60 } : Room) s m [.ref xr, .ref xn].toArray below meth c H locs 0 0 (MQ below (va_Qi (fun (r : Int32) (u : va_W) => ∃ (wf0' : Nat → Int64), u = (wl_k_X2_takeLine cI cJ cK xr r1 r2 r3 r4 r5 w0 w1 w2 w3 w4 w5 w6 w7 xn (nI rz) (nI rv) rw rk wf0' nf) ∧ 0 ≤ r.toInt ∧ r.toInt ≤ 255) (my_B D (tyIJ cI cJ cK) A) A) [.ref xr, .ref xn].toArray s 0 0 A) (F0 m 4 ls []) := by
    intro n9
    induction n9 with
    | zero =>
      intro k x w0_4 hn9
      exact absurd hn9 (Nat.not_lt_zero _)
    | succ n9 ih4 =>
      intro k x w0_4 hn9 hk_k hx0 hx1 H locs ls hP hD hS hl
      refine lv_iload_n hx hb dX2_takeLine_4 rfl (lv_at hl 0 rfl) ?_
      refine lv_aload_n hx hb dX2_takeLine_5 rfl (lv_at hl 2 rfl) ?_
      refine va_get (ci := 2) (v := .int (nI rz)) (C := RX2) (T := TX2) (N := 9) hx hb hts hi2 hown hK hP 0 rfl rfl 5 (by decide) fl30 (fun _ h9 => h9) rfl dX2_takeLine_6 ?_
      refine lv_icmp_ge (tgt := 42) hx hb dX2_takeLine_9 (by decide) (fun c9 => ?_) (fun c9 => ?_)
      ·
        have d9 : ((k : Nat) : Int) ≥ ((rz : Nat) : Int) := my_ge c9 (nI_toInt (by omega)) (nI_toInt (by omega))
        refine lv_iload_n hx hb dX2_takeLine_42 rfl (lv_at hl 1 rfl) ?_
        exact my_retI hx hb hr hlocks hK hS (wl_k_X2_takeLine cI cJ cK xr r1 r2 r3 r4 r5 w0 w1 w2 w3 w4 w5 w6 w7 xn (nI rz) (nI rv) rw rk w0_4 nf) hP hD (⟨w0_4, rfl, (by first | assumption | omega | trivial | decide +kernel), (by first | assumption | omega | trivial | decide +kernel)⟩) dX2_takeLine_43
      ·
        have d9 : ((k : Nat) : Int) < ((rz : Nat) : Int) := my_nge c9 (nI_toInt (by omega)) (nI_toInt (by omega))
        refine lv_aload_n hx hb dX2_takeLine_12 rfl (lv_at hl 2 rfl) ?_
        refine va_get (ci := 2) (v := .ref r1) (C := RX2) (T := TX2) (N := 9) hx hb hts hi2 hown hK hP 0 rfl rfl 0 (by decide) fl11 (fun _ h9 => h9) rfl dX2_takeLine_13 ?_
        refine lv_iconst (v := 0) hx hb dX2_takeLine_16 (by decide +kernel) ?_
        refine my_aald hx hb hK hP 1 rfl (vp_in_nI (n := 0) (by omega) (by omega)) dX2_takeLine_17 ?_
        refine my_eqa (y := .ref w0) (by rw [show (0 : Int32).toNatClampNeg = 0 by decide +kernel]; rfl) ?_
        refine lv_iload_n hx hb dX2_takeLine_18 rfl (lv_at hl 0 rfl) ?_
        refine lv_aload_n hx hb dX2_takeLine_19 rfl (lv_at hl 3 rfl) ?_
        refine lv_iload_n hx hb dX2_takeLine_20 rfl (lv_at hl 0 rfl) ?_
        refine va_iald hx hb hK hP 3 0 rfl rfl (vp_in_nI (by omega) (by omega)) dX2_takeLine_21 ?_
        refine my_eqi (y := nf k) (congrArg nf (nI_clamp (by omega))) ?_
        have hb_1 := hR_nf k
        refine my_gpL (my_pS (As := [.int (nf k)]) (rest := [.int (nI k), .ref w0]) ⟨hx, hb, hml, hown, hts⟩ (va_cwS 1 hts gX2_takeLine_X2_lanesOf rfl rfl rfl (by decide +kernel) ⟨Nat.le_of_ble_eq_true rfl, Nat.le_of_ble_eq_true rfl⟩) hN hK hP [] rfl rfl hl.1 rfl (Nat.le_of_ble_eq_true rfl) dX2_takeLine_22 ⟨Nat.le_of_ble_eq_true rfl, Nat.le_of_ble_eq_true rfl⟩  (k_X2_lanesOf l D cI cJ cK (nf k))) (fun r hp => ?_)
        obtain _ := hp
        obtain ⟨r_2, rfl⟩ : ∃ z, z = r := ⟨_, rfl⟩
        refine va_last hx hb hK hP hD hS 2 1 rfl rfl (vp_in_nI (by omega) (by omega)) dX2_takeLine_25 (fun H locs hP hD hS => ?_)
        obtain ⟨g_3, eg_3⟩ : ∃ g : Nat → Int64, g = vp_updL w0_4 k r_2 := ⟨_, rfl⟩
        have eU : vp_updL w0_4 (nI k : Int32).toNatClampNeg r_2 = g_3 := by rw [eg_3, show (nI k : Int32).toNatClampNeg = k from nI_clamp (by omega)]
        rw [eU] at hP hD
        have hP : va_P D vwCl (wl_k_X2_takeLine cI cJ cK xr r1 r2 r3 r4 r5 w0 w1 w2 w3 w4 w5 w6 w7 xn (nI rz) (nI rv) rw rk g_3 nf) H := hP
        have hD : va_D A (wl_k_X2_takeLine cI cJ cK xr r1 r2 r3 r4 r5 w0 w1 w2 w3 w4 w5 w6 w7 xn (nI rz) (nI rv) rw rk g_3 nf) := hD
        refine lv_iload_n hx hb dX2_takeLine_26 rfl (lv_at hl 1 rfl) ?_
        refine lv_aload_n hx hb dX2_takeLine_27 rfl (lv_at hl 3 rfl) ?_
        refine lv_iload_n hx hb dX2_takeLine_28 rfl (lv_at hl 0 rfl) ?_
        refine va_iald hx hb hK hP 3 0 rfl rfl (vp_in_nI (by omega) (by omega)) dX2_takeLine_29 ?_
        refine my_eqi (y := nf k) (congrArg nf (nI_clamp (by omega))) ?_
        have hb_4 := hR_nf k
        refine lv_aload_n hx hb dX2_takeLine_30 rfl (lv_at hl 3 rfl) ?_
        refine lv_iconst (v := 0) hx hb dX2_takeLine_31 (by decide +kernel) ?_
        refine va_iald hx hb hK hP 3 0 rfl rfl (vp_in_nI (n := 0) (by omega) (by omega)) dX2_takeLine_32 ?_
        refine my_eqi (y := nf 0) (congrArg nf (show (0 : Int32).toNatClampNeg = 0 by decide +kernel)) ?_
        have hb_5 := hR_nf 0
        refine lv_ixor hx hb dX2_takeLine_33 ?_
        refine lv_topi (fun z_6 ez_6 => ?_)
        have hz_6 : 0 ≤ z_6.toInt ∧ z_6.toInt ≤ 255 := by rw [ez_6]; exact my_xor255 (by omega) (by omega) (by omega) (by omega)
        refine lv_ior hx hb dX2_takeLine_34 ?_
        refine lv_topi (fun z_7 ez_7 => ?_)
        have hz_7 : 0 ≤ z_7.toInt ∧ z_7.toInt ≤ 255 := by rw [ez_7]; exact my_or255 (by omega) (by omega) (by omega) (by omega)
        refine lv_istore_n (lv' := [(2, .int z_7), (3, .int (nI k)), (0, .ref xr), (1, .ref xn)]) hx hb dX2_takeLine_35 rfl hl (by decide) rfl (fun ls hl => ?_)
        refine lv_iinc (v := nI (k + 1)) (lv' := [(3, .int (nI (k + 1))), (2, .int z_7), (0, .ref xr), (1, .ref xn)]) hx hb dX2_takeLine_36 hl (k := 1) rfl (my_incN k 1 (by decide +kernel)) (by decide) rfl (fun ls hl => ?_)
        refine lv_goto (tgt := 4) hx hb dX2_takeLine_39 (by decide) ?_
        exact ih4  (k + 1) z_7 g_3 (by omega) (by first | assumption | omega | decide +kernel) (by first | assumption | omega | decide +kernel) (by first | assumption | omega | decide +kernel) _ _ ls hP hD hS (lv_sub hl [0, 1, 2, 3] rfl)
  have ec_8 : (0 : Int32).toInt = 0 := by decide +kernel
  exact loop4 ((rz - 0) + 1) 0 (0 : Int32) wf0 (Nat.lt_succ_self _) (by first | assumption | omega | decide +kernel) (by first | assumption | omega | decide +kernel) (by first | assumption | omega | decide +kernel) _ _ ls hP hD hS (lv_sub hl [0, 1, 2, 3] rfl)
set_option maxHeartbeats 4000000 in
set_option maxRecDepth 100000 in
theorem k_X2_changesOf (l : Launch) (D : va_G) (cI cJ cK : ClassId) (xr : Nat) (r1 : Nat) (r2 : Nat) (r3 : Nat) (r4 : Nat) (r5 : Nat) (wa : Nat) (rz : Nat) (rv : Nat) (rw : Int32) (rk : Int32) (wfa : Nat → Int64) (hz_rz : rz ≤ 64) (hz_rv : rv ≤ 8) : cpL l yX2_changesOf wsX2_changesOf ({ frames := 0, cells := 0, slots := 0, locals := 0 } : Room) D (tyIJ cI cJ cK) [.ref xr, .ref wa] [(xr, .inr (2, [.ref r1, .ref r2, .ref r3, .ref r4, .ref r5, .int (nI rz), .int (nI rv), .int rw, .int rk])), (wa, .inl (cJ, 64, .inr (.inl wfa)))] (fun (r : Int64) => True) := by
  refine cpL.of (cc := cX2_changesOf) (maxL := 5) (ret := (some .long)) (by decide) rfl (Nat.le_of_ble_eq_true rfl) ?_
  intro p e s m below meth c ls hx hb hr hts hown hml hlocks hname hK hN hP hl
  have hl : lv_has ls 5 [(0, .ref xr), (1, .ref wa)] := hl
  have hown : s.vm.findClass RX2 = some m.cls := hown
  have hi2 : ∀ w ∈ u_ws RX2 TX2 9, w ∈ wsX2_changesOf := by decide +kernel
  have fl30 := hts (.fieldLink RX2 30 "PlaneColumn$OrderSearch" "size" "I") (by decide +kernel)
  refine lv_lconst (v := 0) hx hb dX2_changesOf_0 (by decide +kernel) ?_
  refine lv_lstore_n (lv' := [(2, .long 0), (0, .ref xr), (1, .ref wa)]) hx hb dX2_changesOf_1 rfl hl (by decide) rfl (fun ls hl => ?_)
  refine lv_iconst (v := 1) hx hb dX2_changesOf_2 (by decide +kernel) ?_
  refine lv_istore (lv' := [(4, .int 1), (2, .long 0), (0, .ref xr), (1, .ref wa)]) hx hb dX2_changesOf_3 hl (by decide) rfl (fun ls hl => ?_)
  have loop5 : ∀ (n9 : Nat) (k : Nat) (y2_5 : Int64), 64 - k < n9 → (1 ≤ k) → (k ≤ 64) → ∀ (ls : Array Slot), lv_has ls 5 [(4, .int (nI k)), (2, .long y2_5), (0, .ref xr), (1, .ref wa)] → W p l e ({ frames := 0, cells := 0, slots := 0, locals := 0 } : Room) s m [.ref xr, .ref wa].toArray below meth c s.heap [] 0 0 (MQ below (vp_Sl (fun (r : Int64) => True)) [.ref xr, .ref wa].toArray s 0 0 (fun _ => False)) (F0 m 5 ls []) := by
    intro n9
    induction n9 with
    | zero =>
      intro k y2_5 hn9
      exact absurd hn9 (Nat.not_lt_zero _)
    | succ n9 ih5 =>
      intro k y2_5 hn9 h1 h2 ls hl
      refine lv_iload hx hb dX2_changesOf_5 (lv_at hl 0 rfl) ?_
      refine lv_aload_n hx hb dX2_changesOf_7 rfl (lv_at hl 2 rfl) ?_
      refine va_get (ci := 2) (v := .int (nI rz)) (C := RX2) (T := TX2) (N := 9) hx hb hts hi2 hown hK hP 0 rfl rfl 5 (by decide) fl30 (fun _ h9 => h9) rfl dX2_changesOf_8 ?_
      refine lv_icmp_ge (tgt := 34) hx hb dX2_changesOf_11 (by decide) (fun c11 => ?_) (fun c11 => ?_)
      ·
        have d11 : ((k : Nat) : Int) ≥ ((rz : Nat) : Int) := my_ge c11 (nI_toInt (by omega)) (nI_toInt (by omega))
        refine lv_lload_n hx hb dX2_changesOf_34 rfl (lv_at hl 1 rfl) ?_
        exact my_rpL hx hb hr hlocks (trivial) dX2_changesOf_35
      ·
        have d11 : ((k : Nat) : Int) < ((rz : Nat) : Int) := my_nge c11 (nI_toInt (by omega)) (nI_toInt (by omega))
        refine lv_lload_n hx hb dX2_changesOf_14 rfl (lv_at hl 1 rfl) ?_
        refine lv_aload_n hx hb dX2_changesOf_15 rfl (lv_at hl 3 rfl) ?_
        refine lv_iload hx hb dX2_changesOf_16 (lv_at hl 0 rfl) ?_
        refine va_lald hx hb hK hP 1 1 rfl rfl (vp_in_nI (by omega) (by omega)) dX2_changesOf_18 ?_
        refine my_eql (y := wfa k) (congrArg wfa (nI_clamp (by omega))) ?_
        refine lv_aload_n hx hb dX2_changesOf_19 rfl (lv_at hl 3 rfl) ?_
        refine lv_iload hx hb dX2_changesOf_20 (lv_at hl 0 rfl) ?_
        refine lv_iconst (v := 1) hx hb dX2_changesOf_22 (by decide +kernel) ?_
        refine lv_isub hx hb dX2_changesOf_23 ?_
        refine my_eqi (y := nI (k - 1)) (my_subN (a := k) (b := 1) (by omega)) ?_
        refine va_lald hx hb hK hP 1 1 rfl rfl (vp_in_nI (by omega) (by omega)) dX2_changesOf_24 ?_
        refine my_eql (y := wfa (k - 1)) (congrArg wfa (nI_clamp (by omega))) ?_
        refine lv_lxor hx hb dX2_changesOf_25 ?_
        refine lv_topl (fun z_3 ez_3 => ?_)
        refine lv_ladd hx hb dX2_changesOf_26 ?_
        refine lv_topl (fun z_4 ez_4 => ?_)
        refine lv_lstore_n (lv' := [(2, .long z_4), (4, .int (nI k)), (0, .ref xr), (1, .ref wa)]) hx hb dX2_changesOf_27 rfl hl (by decide) rfl (fun ls hl => ?_)
        refine lv_iinc (v := nI (k + 1)) (lv' := [(4, .int (nI (k + 1))), (2, .long z_4), (0, .ref xr), (1, .ref wa)]) hx hb dX2_changesOf_28 hl (k := 1) rfl (my_incN k 1 (by decide +kernel)) (by decide) rfl (fun ls hl => ?_)
        refine lv_goto (tgt := 5) hx hb dX2_changesOf_31 (by decide) ?_
        exact ih5  (k + 1) z_4 (by omega) (by first | assumption | omega | decide +kernel) (by first | assumption | omega | decide +kernel) ls (lv_sub hl [0, 1, 2, 3] rfl)
  have ec_5 : (0 : Int64).toInt = 0 := by decide +kernel
  exact loop5 ((64 - 1) + 1) 1 (0 : Int64) (Nat.lt_succ_self _) (by first | assumption | omega | decide +kernel) (by first | assumption | omega | decide +kernel) ls (lv_sub hl [0, 1, 2, 3] rfl)
abbrev wl_k_X2_part (cI cJ cK : ClassId) (xr : Nat) (r1 : Nat) (r2 : Nat) (r3 : Nat) (r4 : Nat) (r5 : Nat) (wa : Nat) (wb : Nat) (v0_ : Int32) (v1_ : Int32) (v2_ : Int32) (v3_ : Int32) (v4_ : Nat → Int64) (v5_ : Nat → Int64) (v6_ : Nat → Int64) : va_W := [(xr, .inr (2, [.ref r1, .ref r2, .ref r3, .ref r4, .ref r5, .int v0_, .int v1_, .int v2_, .int v3_])), (r2, .inl (cJ, 64, .inr (.inl v4_))), (wa, .inl (cJ, 64, .inr (.inl v5_))), (wb, .inl (cJ, 64, .inr (.inl v6_)))]
set_option maxHeartbeats 4000000 in
set_option maxRecDepth 100000 in
theorem k_X2_part (l : Launch) (D : va_G) (cI cJ cK : ClassId) (xr : Nat) (r1 : Nat) (r2 : Nat) (r3 : Nat) (r4 : Nat) (r5 : Nat) (wa : Nat) (wb : Nat) (rz : Nat) (rv : Nat) (rw : Int32) (rk : Int32) (ro : Nat → Int64) (wfa : Nat → Int64) (wfb : Nat → Int64) (b9 : Int32) (hz_rz : rz ≤ 64) (hz_rv : rv ≤ 8) : ctV l yX2_part wsX2_part ({ frames := 2, cells := 0, slots := 0, locals := 120 } : Room) D (tyIJ cI cJ cK) [.ref xr, .ref wa, .ref wb, .int b9] (wl_k_X2_part cI cJ cK xr r1 r2 r3 r4 r5 wa wb (nI rz) (nI rv) rw rk ro wfa wfb) (fun (u : va_W) => ∃ (ro' : Nat → Int64) (wfb' : Nat → Int64), u = (wl_k_X2_part cI cJ cK xr r1 r2 r3 r4 r5 wa wb (nI rz) (nI rv) rw rk ro' wfa wfb')) := by
  refine ctV.of (cc := cX2_part) (maxL := 9) (ret := none) (by decide) rfl (Nat.le_of_ble_eq_true rfl) ?_
  intro p e s m below meth c ls A hx hb hr hts hown hml hlocks hname hA hK hN hP hD hS hl
  have hl : lv_has ls 9 [(0, .ref xr), (1, .ref wa), (2, .ref wb), (3, .int b9)] := hl
  have hown : s.vm.findClass RX2 = some m.cls := hown
  have hi2 : ∀ w ∈ u_ws RX2 TX2 9, w ∈ wsX2_part := by decide +kernel
  have fl16 := hts (.fieldLink RX2 16 "PlaneColumn$OrderSearch" "ones" "[J") (by decide +kernel)
  have fl30 := hts (.fieldLink RX2 30 "PlaneColumn$OrderSearch" "size" "I") (by decide +kernel)
  refine lv_lconst (v := 1) hx hb dX2_part_0 (by decide +kernel) ?_
  refine lv_bipush (v := 8) hx hb dX2_part_1 (by decide +kernel) ?_
  refine lv_iload_n hx hb dX2_part_3 rfl (lv_at hl 3 rfl) ?_
  refine lv_imul hx hb dX2_part_4 ?_
  refine lv_topi (fun z_1 ez_1 => ?_)
  try have tz_1 : z_1.toInt = (8 : Int) * b9.toInt := by rw [ez_1]; exact my_mulI (by decide +kernel) rfl (by omega) (by omega)
  refine lv_lshl hx hb dX2_part_5 rfl ?_
  refine lv_topl (fun z_2 ez_2 => ?_)
  refine lv_lstore (lv' := [(4, .long z_2), (0, .ref xr), (1, .ref wa), (2, .ref wb), (3, .int b9)]) hx hb dX2_part_6 hl (by decide) rfl (fun ls hl => ?_)
  refine lv_iconst (v := 0) hx hb dX2_part_8 (by decide +kernel) ?_
  refine lv_istore (lv' := [(6, .int 0), (4, .long z_2), (0, .ref xr), (1, .ref wa), (2, .ref wb), (3, .int b9)]) hx hb dX2_part_9 hl (by decide) rfl (fun ls hl => ?_)
  refine lv_iconst (v := 0) hx hb dX2_part_11 (by decide +kernel) ?_
  refine lv_istore (lv' := [(7, .int 0), (6, .int 0), (4, .long z_2), (0, .ref xr), (1, .ref wa), (2, .ref wb), (3, .int b9)]) hx hb dX2_part_12 hl (by decide) rfl (fun ls hl => ?_)
  refine lv_iconst (v := 0) hx hb dX2_part_14 (by decide +kernel) ?_
  refine lv_istore (lv' := [(8, .int 0), (7, .int 0), (6, .int 0), (4, .long z_2), (0, .ref xr), (1, .ref wa), (2, .ref wb), (3, .int b9)]) hx hb dX2_part_15 hl (by decide) rfl (fun ls hl => ?_)
  have loop17 : ∀ (n9 : Nat) (k : Nat) (b : Nat) (a : Nat) (r2_17 : Nat → Int64) (wb_17 : Nat → Int64), rz - k < n9 → (a ≤ 64) → (b ≤ 64) → (k ≤ rz) → (a + b = k) → ∀ (H : Heap) (locs : List Loc) (ls : Array Slot), va_P D vwCl (wl_k_X2_part cI cJ cK xr r1 r2 r3 r4 r5 wa wb (nI rz) (nI rv) rw rk r2_17 wfa wb_17) H → va_D A (wl_k_X2_part cI cJ cK xr r1 r2 r3 r4 r5 wa wb (nI rz) (nI rv) rw rk r2_17 wfa wb_17) → va_S A s.heap H locs → lv_has ls 9 [(8, .int (nI k)), (7, .int (nI b)), (6, .int (nI a)), (4, .long z_2), (0, .ref xr), (1, .ref wa), (2, .ref wb), (3, .int b9)] → W p l e ({ frames := 2, cells := 0, slots := 0, locals := 120 } : Room) s m [.ref xr, .ref wa, .ref wb, .int b9].toArray below meth c H locs 0 0 (MQ below (va_Qv (fun (u : va_W) => ∃ (ro' : Nat → Int64) (wfb' : Nat → Int64), u = (wl_k_X2_part cI cJ cK xr r1 r2 r3 r4 r5 wa wb (nI rz) (nI rv) rw rk ro' wfa wfb')) (my_B D (tyIJ cI cJ cK) A) A) [.ref xr, .ref wa, .ref wb, .int b9].toArray s 0 0 A) (F0 m 17 ls []) := by
    intro n9
    induction n9 with
    | zero =>
      intro k b a r2_17 wb_17 hn9
      exact absurd hn9 (Nat.not_lt_zero _)
    | succ n9 ih17 =>
      intro k b a r2_17 wb_17 hn9 hk_a hk_b hk_k hab H locs ls hP hD hS hl
      refine lv_iload hx hb dX2_part_17 (lv_at hl 0 rfl) ?_
      refine lv_aload_n hx hb dX2_part_19 rfl (lv_at hl 4 rfl) ?_
      refine va_get (ci := 2) (v := .int (nI rz)) (C := RX2) (T := TX2) (N := 9) hx hb hts hi2 hown hK hP 0 rfl rfl 5 (by decide) fl30 (fun _ h9 => h9) rfl dX2_part_20 ?_
      refine lv_icmp_ge (tgt := 72) hx hb dX2_part_23 (by decide) (fun c23 => ?_) (fun c23 => ?_)
      ·
        have d23 : ((k : Nat) : Int) ≥ ((rz : Nat) : Int) := my_ge c23 (nI_toInt (by omega)) (nI_toInt (by omega))
        refine lv_aload_n hx hb dX2_part_72 rfl (lv_at hl 4 rfl) ?_
        refine va_get (ci := 2) (v := .ref r2) (C := RX2) (T := TX2) (N := 9) hx hb hts hi2 hown hK hP 0 rfl rfl 1 (by decide) fl16 (fun _ h9 => h9) rfl dX2_part_73 ?_
        refine lv_iconst (v := 0) hx hb dX2_part_76 (by decide +kernel) ?_
        refine lv_aload_n hx hb dX2_part_77 rfl (lv_at hl 6 rfl) ?_
        refine lv_iload hx hb dX2_part_78 (lv_at hl 2 rfl) ?_
        refine lv_iload hx hb dX2_part_80 (lv_at hl 1 rfl) ?_
        refine va_copyl hx hb (hml.trans hl.1.symm) hown (hts (.methodLink RX2 75 arraycopyName) (by decide +kernel)) (hts (.native arraycopyName) (by decide +kernel)) (hts (.static arraycopyName) (by decide +kernel)) (hts (.initialized "java/lang/System") (by decide +kernel)) hK hP hD hS 1 3 1 1 rfl rfl rfl rfl rfl (by decide +kernel) (nI_nneg (by omega)) (nI_nneg (by omega)) (by rw [show (0 : Int32).toNatClampNeg = 0 from (by decide +kernel), show (nI b : Int32).toNatClampNeg = b from (nI_clamp (by omega))]; omega) (by rw [show (nI a : Int32).toNatClampNeg = a from (nI_clamp (by omega)), show (nI b : Int32).toNatClampNeg = b from (nI_clamp (by omega))]; omega) (fun _ _ => rfl) (Nat.le_of_ble_eq_true rfl) (Nat.le_of_ble_eq_true rfl) dX2_part_82 (fun H locs hP hD hS => ?_)
        obtain ⟨g_3, eg_3⟩ : ∃ g : Nat → Int64, g = va_cpy r2_17 wb_17 0 a b := ⟨_, rfl⟩
        have eU : va_cpy r2_17 wb_17 (0 : Int32).toNatClampNeg (nI a : Int32).toNatClampNeg (nI b : Int32).toNatClampNeg = g_3 := by rw [eg_3, show (0 : Int32).toNatClampNeg = 0 from (by decide +kernel), show (nI a : Int32).toNatClampNeg = a from (nI_clamp (by omega)), show (nI b : Int32).toNatClampNeg = b from (nI_clamp (by omega))]
        rw [eU] at hP hD
        have hP : va_P D vwCl (wl_k_X2_part cI cJ cK xr r1 r2 r3 r4 r5 wa wb (nI rz) (nI rv) rw rk r2_17 wfa g_3) H := hP
        have hD : va_D A (wl_k_X2_part cI cJ cK xr r1 r2 r3 r4 r5 wa wb (nI rz) (nI rv) rw rk r2_17 wfa g_3) := hD
        exact my_retV hx hb hr hlocks hK hS (wl_k_X2_part cI cJ cK xr r1 r2 r3 r4 r5 wa wb (nI rz) (nI rv) rw rk r2_17 wfa g_3) hP hD (⟨r2_17, g_3, rfl⟩) dX2_part_85
      ·
        have d23 : ((k : Nat) : Int) < ((rz : Nat) : Int) := my_nge c23 (nI_toInt (by omega)) (nI_toInt (by omega))
        refine lv_aload_n hx hb dX2_part_26 rfl (lv_at hl 5 rfl) ?_
        refine lv_iload hx hb dX2_part_27 (lv_at hl 0 rfl) ?_
        refine va_lald hx hb hK hP 2 1 rfl rfl (vp_in_nI (by omega) (by omega)) dX2_part_29 ?_
        refine my_eql (y := wfa k) (congrArg wfa (nI_clamp (by omega))) ?_
        refine lv_lload hx hb dX2_part_30 (lv_at hl 3 rfl) ?_
        refine lv_land hx hb dX2_part_32 ?_
        refine lv_topl (fun z_5 ez_5 => ?_)
        refine lv_lconst (v := 0) hx hb dX2_part_33 (by decide +kernel) ?_
        refine W.lcmp hx hb dX2_part_34 ?_
        refine lv_if_ne (tgt := 52) hx hb dX2_part_35 (by decide) (fun c35 => ?_) (fun c35 => ?_)
        ·
          have d35 : z_5.toInt ≠ (0 : Int) := my_lne c35 rfl (by decide +kernel)
          refine lv_aload_n hx hb dX2_part_52 rfl (lv_at hl 4 rfl) ?_
          refine va_get (ci := 2) (v := .ref r2) (C := RX2) (T := TX2) (N := 9) hx hb hts hi2 hown hK hP 0 rfl rfl 1 (by decide) fl16 (fun _ h9 => h9) rfl dX2_part_53 ?_
          refine lv_iload hx hb dX2_part_56 (lv_at hl 1 rfl) ?_
          refine lv_aload_n hx hb dX2_part_58 rfl (lv_at hl 5 rfl) ?_
          refine lv_iload hx hb dX2_part_59 (lv_at hl 0 rfl) ?_
          refine va_lald hx hb hK hP 2 1 rfl rfl (vp_in_nI (by omega) (by omega)) dX2_part_61 ?_
          refine my_eql (y := wfa k) (congrArg wfa (nI_clamp (by omega))) ?_
          refine va_last hx hb hK hP hD hS 1 1 rfl rfl (vp_in_nI (by omega) (by omega)) dX2_part_62 (fun H locs hP hD hS => ?_)
          obtain ⟨g_7, eg_7⟩ : ∃ g : Nat → Int64, g = vp_updL r2_17 b (wfa k) := ⟨_, rfl⟩
          have eU : vp_updL r2_17 (nI b : Int32).toNatClampNeg (wfa k) = g_7 := by rw [eg_7, show (nI b : Int32).toNatClampNeg = b from nI_clamp (by omega)]
          rw [eU] at hP hD
          have hP : va_P D vwCl (wl_k_X2_part cI cJ cK xr r1 r2 r3 r4 r5 wa wb (nI rz) (nI rv) rw rk g_7 wfa wb_17) H := hP
          have hD : va_D A (wl_k_X2_part cI cJ cK xr r1 r2 r3 r4 r5 wa wb (nI rz) (nI rv) rw rk g_7 wfa wb_17) := hD
          refine lv_iinc (v := nI (b + 1)) (lv' := [(7, .int (nI (b + 1))), (8, .int (nI k)), (6, .int (nI a)), (4, .long z_2), (0, .ref xr), (1, .ref wa), (2, .ref wb), (3, .int b9)]) hx hb dX2_part_63 hl (k := 1) rfl (my_incN b 1 (by decide +kernel)) (by decide) rfl (fun ls hl => ?_)
          refine lv_iinc (v := nI (k + 1)) (lv' := [(8, .int (nI (k + 1))), (7, .int (nI (b + 1))), (6, .int (nI a)), (4, .long z_2), (0, .ref xr), (1, .ref wa), (2, .ref wb), (3, .int b9)]) hx hb dX2_part_66 hl (k := 1) rfl (my_incN k 1 (by decide +kernel)) (by decide) rfl (fun ls hl => ?_)
          refine lv_goto (tgt := 17) hx hb dX2_part_69 (by decide) ?_
          exact ih17  (k + 1) (b + 1) a g_7 wb_17 (by omega) (by first | assumption | omega | decide +kernel) (by first | assumption | omega | decide +kernel) (by first | assumption | omega | decide +kernel) (by first | assumption | omega | decide +kernel) _ _ ls hP hD hS (lv_sub hl [0, 1, 2, 3, 4, 5, 6, 7] rfl)
        ·
          have d35 : z_5.toInt = (0 : Int) := my_leq c35 rfl (by decide +kernel)
          refine lv_aload_n hx hb dX2_part_38 rfl (lv_at hl 6 rfl) ?_
          refine lv_iload hx hb dX2_part_39 (lv_at hl 2 rfl) ?_
          refine lv_aload_n hx hb dX2_part_41 rfl (lv_at hl 5 rfl) ?_
          refine lv_iload hx hb dX2_part_42 (lv_at hl 0 rfl) ?_
          refine va_lald hx hb hK hP 2 1 rfl rfl (vp_in_nI (by omega) (by omega)) dX2_part_44 ?_
          refine my_eql (y := wfa k) (congrArg wfa (nI_clamp (by omega))) ?_
          refine va_last hx hb hK hP hD hS 3 1 rfl rfl (vp_in_nI (by omega) (by omega)) dX2_part_45 (fun H locs hP hD hS => ?_)
          obtain ⟨g_9, eg_9⟩ : ∃ g : Nat → Int64, g = vp_updL wb_17 a (wfa k) := ⟨_, rfl⟩
          have eU : vp_updL wb_17 (nI a : Int32).toNatClampNeg (wfa k) = g_9 := by rw [eg_9, show (nI a : Int32).toNatClampNeg = a from nI_clamp (by omega)]
          rw [eU] at hP hD
          have hP : va_P D vwCl (wl_k_X2_part cI cJ cK xr r1 r2 r3 r4 r5 wa wb (nI rz) (nI rv) rw rk r2_17 wfa g_9) H := hP
          have hD : va_D A (wl_k_X2_part cI cJ cK xr r1 r2 r3 r4 r5 wa wb (nI rz) (nI rv) rw rk r2_17 wfa g_9) := hD
          refine lv_iinc (v := nI (a + 1)) (lv' := [(6, .int (nI (a + 1))), (8, .int (nI k)), (7, .int (nI b)), (4, .long z_2), (0, .ref xr), (1, .ref wa), (2, .ref wb), (3, .int b9)]) hx hb dX2_part_46 hl (k := 2) rfl (my_incN a 1 (by decide +kernel)) (by decide) rfl (fun ls hl => ?_)
          refine lv_goto (tgt := 66) hx hb dX2_part_49 (by decide) ?_
          refine lv_iinc (v := nI (k + 1)) (lv' := [(8, .int (nI (k + 1))), (6, .int (nI (a + 1))), (7, .int (nI b)), (4, .long z_2), (0, .ref xr), (1, .ref wa), (2, .ref wb), (3, .int b9)]) hx hb dX2_part_66 hl (k := 1) rfl (my_incN k 1 (by decide +kernel)) (by decide) rfl (fun ls hl => ?_)
          refine lv_goto (tgt := 17) hx hb dX2_part_69 (by decide) ?_
          exact ih17  (k + 1) b (a + 1) r2_17 g_9 (by omega) (by first | assumption | omega | decide +kernel) (by first | assumption | omega | decide +kernel) (by first | assumption | omega | decide +kernel) (by first | assumption | omega | decide +kernel) _ _ ls hP hD hS (lv_sub hl [0, 2, 1, 3, 4, 5, 6, 7] rfl)
  exact loop17 ((rz - 0) + 1) 0 0 0 ro wfb (Nat.lt_succ_self _) (by first | assumption | omega | decide +kernel) (by first | assumption | omega | decide +kernel) (by first | assumption | omega | decide +kernel) (by first | assumption | omega | decide +kernel) _ _ ls hP hD hS (lv_sub hl [0, 1, 2, 3, 4, 5, 6, 7] rfl)
abbrev wl_k_X2_takeBit_7 (cI cJ cK : ClassId) (xr : Nat) (r1 : Nat) (r2 : Nat) (r3 : Nat) (r4 : Nat) (r5 : Nat) (w0 : Nat) (w1 : Nat) (w2 : Nat) (w3 : Nat) (w4 : Nat) (w5 : Nat) (w6 : Nat) (w7 : Nat) (v0_ : Int32) (v1_ : Int32) (v2_ : Int32) (v3_ : Int32) (v4_ : Nat → Int64) (v5_ : Nat → Int32) (v6_ : Nat → Int32) (v7_ : Nat → Int64) : va_W := [(xr, .inr (2, [.ref r1, .ref r2, .ref r3, .ref r4, .ref r5, .int v0_, .int v1_, .int v2_, .int v3_])), (r1, .inl (cK, 8, .inr (.inr (.inr (.inr (fun j => ([w0, w1, w2, w3, w4, w5, w6, w7] : List Nat)[j]?)))))), (r2, .inl (cJ, 64, .inr (.inl v4_))), (r3, .inl (cI, 8, .inl v5_)), (r4, .inl (cI, 8, .inl v6_)), (w7, .inl (cJ, 64, .inr (.inl v7_)))]
set_option maxHeartbeats 4000000 in
set_option maxRecDepth 100000 in
theorem k_X2_takeBit_7 (l : Launch) (D : va_G) (cI cJ cK : ClassId) (xr : Nat) (r1 : Nat) (r2 : Nat) (r3 : Nat) (r4 : Nat) (r5 : Nat) (w0 : Nat) (w1 : Nat) (w2 : Nat) (w3 : Nat) (w4 : Nat) (w5 : Nat) (w6 : Nat) (w7 : Nat) (rz : Nat) (rv : Nat) (rw : Int32) (rk : Int32) (ro : Nat → Int64) (rt : Nat → Int32) (rb : Nat → Int32) (wf7 : Nat → Int64) (o9 : Int32) (u9 : Int32) (hz_rz : rz ≤ 64) (hz_rv : rv ≤ 8) : ctV l yX2_takeBit wsX2_takeBit ({ frames := 2, cells := 0, slots := 0, locals := 120 } : Room) D (tyIJ cI cJ cK) [.ref xr, .int 7, .int o9, .int u9] (wl_k_X2_takeBit_7 cI cJ cK xr r1 r2 r3 r4 r5 w0 w1 w2 w3 w4 w5 w6 w7 (nI rz) (nI rv) rw rk ro rt rb wf7) (fun (u : va_W) => ∃ (rz' : Nat) (rv' : Nat) (rw' : Int32) (rk' : Int32) (ro' : Nat → Int64) (rt' : Nat → Int32) (rb' : Nat → Int32), u = (wl_k_X2_takeBit_7 cI cJ cK xr r1 r2 r3 r4 r5 w0 w1 w2 w3 w4 w5 w6 w7 (nI rz') (nI rv') rw' rk' ro' rt' rb' wf7) ∧ rz' ≤ 64 ∧ rv' ≤ 8 ∧ rv' = rv ∧ rz' = rz) := by
  refine ctV.of (cc := cX2_takeBit) (maxL := 4) (ret := none) (by decide) rfl (Nat.le_of_ble_eq_true rfl) ?_
  intro p e s m below meth c ls A hx hb hr hts hown hml hlocks hname hA hK hN hP hD hS hl
  have hl : lv_has ls 4 [(0, .ref xr), (1, .int 7), (2, .int o9), (3, .int u9)] := hl
  have hown : s.vm.findClass RX2 = some m.cls := hown
  have hi2 : ∀ w ∈ u_ws RX2 TX2 9, w ∈ wsX2_takeBit := by decide +kernel
  have fl20 := hts (.fieldLink RX2 20 "PlaneColumn$OrderSearch" "tried" "[I") (by decide +kernel)
  have fl24 := hts (.fieldLink RX2 24 "PlaneColumn$OrderSearch" "best" "[I") (by decide +kernel)
  have fl34 := hts (.fieldLink RX2 34 "PlaneColumn$OrderSearch" "variedCount" "I") (by decide +kernel)
  have fl37 := hts (.fieldLink RX2 37 "PlaneColumn$OrderSearch" "fewest" "I") (by decide +kernel)
  refine lv_iload_n hx hb dX2_takeBit_0 rfl (lv_at hl 2 rfl) ?_
  refine lv_if_ne (tgt := 29) hx hb dX2_takeBit_1 (by decide) (fun c1 => ?_) (fun c1 => ?_)
  ·
    have d1 : o9.toInt ≠ (0 : Int) := my_ne c1 rfl (by decide +kernel)
    refine lv_iload_n hx hb dX2_takeBit_29 rfl (lv_at hl 1 rfl) ?_
    refine lv_iconst (v := 1) hx hb dX2_takeBit_30 (by decide +kernel) ?_
    refine lv_iadd hx hb dX2_takeBit_31 ?_
    refine my_eqi (y := 8) (by decide +kernel) ?_
    refine lv_bipush (v := 8) hx hb dX2_takeBit_32 (by decide +kernel) ?_
    refine lv_icmp_ge (tgt := 70) hx hb dX2_takeBit_34 (by decide) (fun c34 => ?_) (fun c34 => ?_)
    ·
      exact my_retV hx hb hr hlocks hK hS (wl_k_X2_takeBit_7 cI cJ cK xr r1 r2 r3 r4 r5 w0 w1 w2 w3 w4 w5 w6 w7 (nI rz) (nI rv) rw rk ro rt rb wf7) hP hD (⟨rz, rv, rw, rk, ro, rt, rb, rfl, (by first | assumption | omega | trivial | decide +kernel), (by first | assumption | omega | trivial | decide +kernel), (by first | assumption | omega | trivial | decide +kernel), (by first | assumption | omega | trivial | decide +kernel)⟩) dX2_takeBit_70
    ·
      exact absurd c34 (by decide +kernel)
  ·
    have d1 : o9.toInt = (0 : Int) := my_eq c1 rfl (by decide +kernel)
    refine lv_aload_n hx hb dX2_takeBit_4 rfl (lv_at hl 0 rfl) ?_
    refine lv_iload_n hx hb dX2_takeBit_5 rfl (lv_at hl 3 rfl) ?_
    refine va_put (ci := 2) (v := .int u9) (ty := (.int)) (C := RX2) (T := TX2) (N := 9) hx hb hts hi2 tyX2 tyX2_ok nmX2 hown hK hP hD hS 0 rfl rfl 7 (by decide) fl37 (fun _ h9 => h9) rfl (by decide +kernel) rfl rfl (Nat.le_of_ble_eq_true rfl) dX2_takeBit_6 (fun H locs hP hD hS => ?_)
    have hP : va_P D vwCl (wl_k_X2_takeBit_7 cI cJ cK xr r1 r2 r3 r4 r5 w0 w1 w2 w3 w4 w5 w6 w7 (nI rz) (nI rv) u9 rk ro rt rb wf7) H := hP
    have hD : va_D A (wl_k_X2_takeBit_7 cI cJ cK xr r1 r2 r3 r4 r5 w0 w1 w2 w3 w4 w5 w6 w7 (nI rz) (nI rv) u9 rk ro rt rb wf7) := hD
    refine lv_aload_n hx hb dX2_takeBit_9 rfl (lv_at hl 0 rfl) ?_
    refine va_get (ci := 2) (v := .ref r3) (C := RX2) (T := TX2) (N := 9) hx hb hts hi2 hown hK hP 0 rfl rfl 2 (by decide) fl20 (fun _ h9 => h9) rfl dX2_takeBit_10 ?_
    refine lv_iconst (v := 0) hx hb dX2_takeBit_13 (by decide +kernel) ?_
    refine lv_aload_n hx hb dX2_takeBit_14 rfl (lv_at hl 0 rfl) ?_
    refine va_get (ci := 2) (v := .ref r4) (C := RX2) (T := TX2) (N := 9) hx hb hts hi2 hown hK hP 0 rfl rfl 3 (by decide) fl24 (fun _ h9 => h9) rfl dX2_takeBit_15 ?_
    refine lv_iconst (v := 0) hx hb dX2_takeBit_18 (by decide +kernel) ?_
    refine lv_aload_n hx hb dX2_takeBit_19 rfl (lv_at hl 0 rfl) ?_
    refine va_get (ci := 2) (v := .int (nI rv)) (C := RX2) (T := TX2) (N := 9) hx hb hts hi2 hown hK hP 0 rfl rfl 6 (by decide) fl34 (fun _ h9 => h9) rfl dX2_takeBit_20 ?_
    refine va_copyi hx hb (hml.trans hl.1.symm) hown (hts (.methodLink RX2 75 arraycopyName) (by decide +kernel)) (hts (.native arraycopyName) (by decide +kernel)) (hts (.static arraycopyName) (by decide +kernel)) (hts (.initialized "java/lang/System") (by decide +kernel)) hK hP hD hS 3 4 0 0 rfl rfl rfl rfl rfl (by decide +kernel) (by decide +kernel) (nI_nneg (by omega)) (by rw [show (0 : Int32).toNatClampNeg = 0 from (by decide +kernel), show (nI rv : Int32).toNatClampNeg = rv from (nI_clamp (by omega))]; omega) (by rw [show (0 : Int32).toNatClampNeg = 0 from (by decide +kernel), show (nI rv : Int32).toNatClampNeg = rv from (nI_clamp (by omega))]; omega) (fun _ _ => rfl) (Nat.le_of_ble_eq_true rfl) (Nat.le_of_ble_eq_true rfl) dX2_takeBit_23 (fun H locs hP hD hS => ?_)
    obtain ⟨g_1, eg_1⟩ : ∃ g : Nat → Int32, g = va_cpy rt rb 0 0 rv := ⟨_, rfl⟩
    have eU : va_cpy rt rb (0 : Int32).toNatClampNeg (0 : Int32).toNatClampNeg (nI rv : Int32).toNatClampNeg = g_1 := by rw [eg_1, show (0 : Int32).toNatClampNeg = 0 from (by decide +kernel), show (nI rv : Int32).toNatClampNeg = rv from (nI_clamp (by omega))]
    rw [eU] at hP hD
    have hP : va_P D vwCl (wl_k_X2_takeBit_7 cI cJ cK xr r1 r2 r3 r4 r5 w0 w1 w2 w3 w4 w5 w6 w7 (nI rz) (nI rv) u9 rk ro rt g_1 wf7) H := hP
    have hD : va_D A (wl_k_X2_takeBit_7 cI cJ cK xr r1 r2 r3 r4 r5 w0 w1 w2 w3 w4 w5 w6 w7 (nI rz) (nI rv) u9 rk ro rt g_1 wf7) := hD
    refine lv_goto (tgt := 70) hx hb dX2_takeBit_26 (by decide) ?_
    exact my_retV hx hb hr hlocks hK hS (wl_k_X2_takeBit_7 cI cJ cK xr r1 r2 r3 r4 r5 w0 w1 w2 w3 w4 w5 w6 w7 (nI rz) (nI rv) u9 rk ro rt g_1 wf7) hP hD (⟨rz, rv, u9, rk, ro, rt, g_1, rfl, (by first | assumption | omega | trivial | decide +kernel), (by first | assumption | omega | trivial | decide +kernel), (by first | assumption | omega | trivial | decide +kernel), (by first | assumption | omega | trivial | decide +kernel)⟩) dX2_takeBit_70
abbrev wl_k_X2_tryBits_7 (cI cJ cK : ClassId) (xr : Nat) (r1 : Nat) (r2 : Nat) (r3 : Nat) (r4 : Nat) (r5 : Nat) (w0 : Nat) (w1 : Nat) (w2 : Nat) (w3 : Nat) (w4 : Nat) (w5 : Nat) (w6 : Nat) (w7 : Nat) (v0_ : Int32) (v1_ : Int32) (v2_ : Int32) (v3_ : Int32) (v4_ : Nat → Int64) (v5_ : Nat → Int32) (v6_ : Nat → Int32) (v7_ : Nat → Int64) : va_W := [(xr, .inr (2, [.ref r1, .ref r2, .ref r3, .ref r4, .ref r5, .int v0_, .int v1_, .int v2_, .int v3_])), (r1, .inl (cK, 8, .inr (.inr (.inr (.inr (fun j => ([w0, w1, w2, w3, w4, w5, w6, w7] : List Nat)[j]?)))))), (r2, .inl (cJ, 64, .inr (.inl v4_))), (r3, .inl (cI, 8, .inl v5_)), (r4, .inl (cI, 8, .inl v6_)), (w7, .inl (cJ, 64, .inr (.inl v7_)))]
set_option maxHeartbeats 4000000 in
set_option maxRecDepth 100000 in
theorem k_X2_tryBits_7 (l : Launch) (D : va_G) (cI cJ cK : ClassId) (xr : Nat) (r1 : Nat) (r2 : Nat) (r3 : Nat) (r4 : Nat) (r5 : Nat) (w0 : Nat) (w1 : Nat) (w2 : Nat) (w3 : Nat) (w4 : Nat) (w5 : Nat) (w6 : Nat) (w7 : Nat) (rz : Nat) (rv : Nat) (rw : Int32) (rk : Int32) (ro : Nat → Int64) (rt : Nat → Int32) (rb : Nat → Int32) (wf7 : Nat → Int64) (o9 : Int32) (u9 : Int32) (hz_rz : rz ≤ 64) (hz_rv : rv ≤ 8) : ctV l yX2_tryBits wsX2_tryBits ({ frames := 3, cells := 0, slots := 0, locals := 180 } : Room) D (tyIJ cI cJ cK) [.ref xr, .int 7, .int o9, .int u9] (wl_k_X2_tryBits_7 cI cJ cK xr r1 r2 r3 r4 r5 w0 w1 w2 w3 w4 w5 w6 w7 (nI rz) (nI rv) rw rk ro rt rb wf7) (fun (u : va_W) => ∃ (rz' : Nat) (rv' : Nat) (rw' : Int32) (rk' : Int32) (ro' : Nat → Int64) (rt' : Nat → Int32) (rb' : Nat → Int32), u = (wl_k_X2_tryBits_7 cI cJ cK xr r1 r2 r3 r4 r5 w0 w1 w2 w3 w4 w5 w6 w7 (nI rz') (nI rv') rw' rk' ro' rt' rb' wf7) ∧ rz' ≤ 64 ∧ rv' ≤ 8 ∧ rv' = rv ∧ rz' = rz) := by
  refine ctV.of (cc := cX2_tryBits) (maxL := 9) (ret := none) (by decide) rfl (Nat.le_of_ble_eq_true rfl) ?_
  intro p e s m below meth c ls A hx hb hr hts hown hml hlocks hname hA hK hN hP hD hS hl
  have hl : lv_has ls 9 [(0, .ref xr), (1, .int 7), (2, .int o9), (3, .int u9)] := hl
  have hown : s.vm.findClass RX2 = some m.cls := hown
  have hi2 : ∀ w ∈ u_ws RX2 TX2 9, w ∈ wsX2_tryBits := by decide +kernel
  have fl11 := hts (.fieldLink RX2 11 "PlaneColumn$OrderSearch" "lines" "[[J") (by decide +kernel)
  have fl20 := hts (.fieldLink RX2 20 "PlaneColumn$OrderSearch" "tried" "[I") (by decide +kernel)
  have fl34 := hts (.fieldLink RX2 34 "PlaneColumn$OrderSearch" "variedCount" "I") (by decide +kernel)
  have fl37 := hts (.fieldLink RX2 37 "PlaneColumn$OrderSearch" "fewest" "I") (by decide +kernel)
  refine lv_iload_n hx hb dX2_tryBits_0 rfl (lv_at hl 1 rfl) ?_
  refine lv_aload_n hx hb dX2_tryBits_1 rfl (lv_at hl 0 rfl) ?_
  refine va_get (ci := 2) (v := .int (nI rv)) (C := RX2) (T := TX2) (N := 9) hx hb hts hi2 hown hK hP 0 rfl rfl 6 (by decide) fl34 (fun _ h9 => h9) rfl dX2_tryBits_2 ?_
  refine lv_icmp_ge (tgt := 14) hx hb dX2_tryBits_5 (by decide) (fun c5 => ?_) (fun c5 => ?_)
  ·
    have d5 : (7 : Int) ≥ ((rv : Nat) : Int) := my_ge c5 (by decide +kernel) (nI_toInt (by omega))
    exact my_retV hx hb hr hlocks hK hS (wl_k_X2_tryBits_7 cI cJ cK xr r1 r2 r3 r4 r5 w0 w1 w2 w3 w4 w5 w6 w7 (nI rz) (nI rv) rw rk ro rt rb wf7) hP hD (⟨rz, rv, rw, rk, ro, rt, rb, rfl, (by first | assumption | omega | trivial | decide +kernel), (by first | assumption | omega | trivial | decide +kernel), (by first | assumption | omega | trivial | decide +kernel), (by first | assumption | omega | trivial | decide +kernel)⟩) dX2_tryBits_14
  ·
    have d5 : (7 : Int) < ((rv : Nat) : Int) := my_nge c5 (by decide +kernel) (nI_toInt (by omega))
    refine lv_iload_n hx hb dX2_tryBits_8 rfl (lv_at hl 1 rfl) ?_
    refine lv_bipush (v := 8) hx hb dX2_tryBits_9 (by decide +kernel) ?_
    refine lv_icmp_lt (tgt := 15) hx hb dX2_tryBits_11 (by decide) (fun c11 => ?_) (fun c11 => ?_)
    ·
      refine lv_aload_n hx hb dX2_tryBits_15 rfl (lv_at hl 0 rfl) ?_
      refine lv_aload_n hx hb dX2_tryBits_16 rfl (lv_at hl 0 rfl) ?_
      refine va_get (ci := 2) (v := .ref r1) (C := RX2) (T := TX2) (N := 9) hx hb hts hi2 hown hK hP 0 rfl rfl 0 (by decide) fl11 (fun _ h9 => h9) rfl dX2_tryBits_17 ?_
      refine lv_iload_n hx hb dX2_tryBits_20 rfl (lv_at hl 1 rfl) ?_
      refine my_aald hx hb hK hP 1 rfl (vp_in_nI (n := 7) (by omega) (by omega)) dX2_tryBits_21 ?_
      refine my_eqa (y := .ref w7) (by rw [show (7 : Int32).toNatClampNeg = 7 by decide +kernel]; rfl) ?_
      refine my_gpL (my_pV (As := [.ref w7]) (rest := []) (ci := 2) ⟨hx, hb, hml, hown, hts⟩ (cwV 1 hts gX2_tryBits_X2_changesOf rfl rfl rfl (by decide +kernel) ⟨Nat.le_of_ble_eq_true rfl, Nat.le_of_ble_eq_true rfl⟩) hN hK hP [0, 5] rfl 0 rfl rfl rfl rfl hl.1 rfl (Nat.le_of_ble_eq_true rfl) dX2_tryBits_22 ⟨Nat.le_of_ble_eq_true rfl, Nat.le_of_ble_eq_true rfl⟩  (k_X2_changesOf l D cI cJ cK xr r1 r2 r3 r4 r5 w7 rz rv rw rk wf7 (by first | assumption | omega | decide +kernel) (by first | assumption | omega | decide +kernel))) (fun r hp => ?_)
      obtain _ := hp
      obtain ⟨r_1, rfl⟩ : ∃ z, z = r := ⟨_, rfl⟩
      refine lv_lstore (lv' := [(4, .long r_1), (0, .ref xr), (1, .int 7), (2, .int o9), (3, .int u9)]) hx hb dX2_tryBits_25 hl (by decide) rfl (fun ls hl => ?_)
      refine lv_iconst (v := 2) hx hb dX2_tryBits_27 (by decide +kernel) ?_
      refine lv_aload_n hx hb dX2_tryBits_28 rfl (lv_at hl 1 rfl) ?_
      refine va_get (ci := 2) (v := .int (nI rv)) (C := RX2) (T := TX2) (N := 9) hx hb hts hi2 hown hK hP 0 rfl rfl 6 (by decide) fl34 (fun _ h9 => h9) rfl dX2_tryBits_29 ?_
      refine lv_iconst (v := 1) hx hb dX2_tryBits_32 (by decide +kernel) ?_
      refine lv_isub hx hb dX2_tryBits_33 ?_
      refine lv_topi (fun z_2 ez_2 => ?_)
      try have tz_2 : z_2.toInt = ((rv : Nat) : Int) - (1 : Int) := by rw [ez_2]; exact my_subI (nI_toInt (by omega)) (by decide +kernel) (by omega) (by omega)
      refine lv_iload_n hx hb dX2_tryBits_34 rfl (lv_at hl 2 rfl) ?_
      refine lv_isub hx hb dX2_tryBits_35 ?_
      refine lv_topi (fun z_3 ez_3 => ?_)
      try have tz_3 : z_3.toInt = z_2.toInt - (7 : Int) := by rw [ez_3]; exact my_subI rfl (by decide +kernel) (by omega) (by omega)
      refine lv_imul hx hb dX2_tryBits_36 ?_
      refine lv_topi (fun z_4 ez_4 => ?_)
      try have tz_4 : z_4.toInt = (2 : Int) * z_3.toInt := by rw [ez_4]; exact my_mulI (by decide +kernel) rfl (by omega) (by omega)
      refine lv_istore (lv' := [(6, .int z_4), (4, .long r_1), (0, .ref xr), (1, .int 7), (2, .int o9), (3, .int u9)]) hx hb dX2_tryBits_37 hl (by decide) rfl (fun ls hl => ?_)
      refine lv_bipush (v := 7) hx hb dX2_tryBits_39 (by decide +kernel) ?_
      refine lv_istore (lv' := [(7, .int 7), (6, .int z_4), (4, .long r_1), (0, .ref xr), (1, .int 7), (2, .int o9), (3, .int u9)]) hx hb dX2_tryBits_41 hl (by decide) rfl (fun ls hl => ?_)
      have loop43 : ∀ (n9 : Nat) (x : Int32) (xr_size_43 : Nat) (xr_variedCount_43 : Nat) (xr_fewest_43 : Int32) (xr_known_43 : Int32) (r2_43 : Nat → Int64) (r3_43 : Nat → Int32) (r4_43 : Nat → Int32), (x.toInt + 1).toNat < n9 → (-1 ≤ x.toInt) → (x.toInt ≤ 7) → (xr_variedCount_43 = rv) → (xr_size_43 = rz) → (xr_size_43 ≤ 64) → (xr_variedCount_43 ≤ 8) → ∀ (H : Heap) (locs : List Loc) (ls : Array Slot), va_P D vwCl (wl_k_X2_tryBits_7 cI cJ cK xr r1 r2 r3 r4 r5 w0 w1 w2 w3 w4 w5 w6 w7 (nI xr_size_43) (nI xr_variedCount_43) xr_fewest_43 xr_known_43 r2_43 r3_43 r4_43 wf7) H → va_D A (wl_k_X2_tryBits_7 cI cJ cK xr r1 r2 r3 r4 r5 w0 w1 w2 w3 w4 w5 w6 w7 (nI xr_size_43) (nI xr_variedCount_43) xr_fewest_43 xr_known_43 r2_43 r3_43 r4_43 wf7) → va_S A s.heap H locs → lv_has ls 9 [(7, .int x), (6, .int z_4), (4, .long r_1), (0, .ref xr), (1, .int 7), (2, .int o9), (3, .int u9)] → W p l e ({ frames := 3, cells := 0, slots := 0, locals := 180 } : Room) s m [.ref xr, .int 7, .int o9, .int u9].toArray below meth c H locs 0 0 (MQ below (va_Qv (fun (u : va_W) => ∃ (rz' : Nat) (rv' : Nat) (rw' : Int32) (rk' : Int32) (ro' : Nat → Int64) (rt' : Nat → Int32) (rb' : Nat → Int32), u = (wl_k_X2_tryBits_7 cI cJ cK xr r1 r2 r3 r4 r5 w0 w1 w2 w3 w4 w5 w6 w7 (nI rz') (nI rv') rw' rk' ro' rt' rb' wf7) ∧ rz' ≤ 64 ∧ rv' ≤ 8 ∧ rv' = rv ∧ rz' = rz) (my_B D (tyIJ cI cJ cK) A) A) [.ref xr, .int 7, .int o9, .int u9].toArray s 0 0 A) (F0 m 43 ls []) := by
        intro n9
        induction n9 with
        | zero =>
          intro x xr_size_43 xr_variedCount_43 xr_fewest_43 xr_known_43 r2_43 r3_43 r4_43 hn9
          exact absurd hn9 (Nat.not_lt_zero _)
        | succ n9 ih43 =>
          intro x xr_size_43 xr_variedCount_43 xr_fewest_43 xr_known_43 r2_43 r3_43 r4_43 hn9 hx0 hx1 hv hzz hz_xr_size_43 hz_xr_variedCount_43 H locs ls hP hD hS hl
          refine lv_iload hx hb dX2_tryBits_43 (lv_at hl 0 rfl) ?_
          refine lv_if_lt (tgt := 117) hx hb dX2_tryBits_45 (by decide) (fun c45 => ?_) (fun c45 => ?_)
          ·
            have d45 : x.toInt < (0 : Int) := my_lt c45 rfl (by decide +kernel)
            exact my_retV hx hb hr hlocks hK hS (wl_k_X2_tryBits_7 cI cJ cK xr r1 r2 r3 r4 r5 w0 w1 w2 w3 w4 w5 w6 w7 (nI xr_size_43) (nI xr_variedCount_43) xr_fewest_43 xr_known_43 r2_43 r3_43 r4_43 wf7) hP hD (⟨xr_size_43, xr_variedCount_43, xr_fewest_43, xr_known_43, r2_43, r3_43, r4_43, rfl, (by first | assumption | omega | trivial | decide +kernel), (by first | assumption | omega | trivial | decide +kernel), (by first | assumption | omega | trivial | decide +kernel), (by first | assumption | omega | trivial | decide +kernel)⟩) dX2_tryBits_117
          ·
            have d45 : x.toInt ≥ (0 : Int) := my_nlt c45 rfl (by decide +kernel)
            refine lv_iload_n hx hb dX2_tryBits_48 rfl (lv_at hl 6 rfl) ?_
            refine lv_iconst (v := 1) hx hb dX2_tryBits_49 (by decide +kernel) ?_
            refine lv_iadd hx hb dX2_tryBits_50 ?_
            refine lv_topi (fun z_5 ez_5 => ?_)
            try have tz_5 : z_5.toInt = u9.toInt + (1 : Int) := by rw [ez_5]; exact my_addI rfl (by decide +kernel) (by omega) (by omega)
            refine lv_lload hx hb dX2_tryBits_51 (lv_at hl 2 rfl) ?_
            refine lv_bipush (v := 8) hx hb dX2_tryBits_53 (by decide +kernel) ?_
            refine lv_iload hx hb dX2_tryBits_55 (lv_at hl 0 rfl) ?_
            refine lv_imul hx hb dX2_tryBits_57 ?_
            refine lv_topi (fun z_6 ez_6 => ?_)
            try have tz_6 : z_6.toInt = (8 : Int) * x.toInt := by rw [ez_6]; exact my_mulI (by decide +kernel) rfl (by omega) (by omega)
            refine lv_lushr hx hb dX2_tryBits_58 rfl ?_
            refine lv_topl (fun z_7 ez_7 => ?_)
            refine lv_ldc2 (v := 255) hx hb hown (hts (.constantLong RX2 70 (255)) (by decide +kernel)) dX2_tryBits_59 ?_
            refine lv_land hx hb dX2_tryBits_62 ?_
            refine lv_topl (fun z_8 ez_8 => ?_)
            refine lv_l2i hx hb dX2_tryBits_63 rfl ?_
            refine lv_topi (fun z_9 ez_9 => ?_)
            refine lv_iadd hx hb dX2_tryBits_64 ?_
            refine lv_topi (fun z_10 ez_10 => ?_)
            try have tz_10 : z_10.toInt = z_5.toInt + z_9.toInt := by rw [ez_10]; exact my_addI rfl rfl (by omega) (by omega)
            refine lv_istore (lv' := [(8, .int z_10), (7, .int x), (6, .int z_4), (4, .long r_1), (0, .ref xr), (1, .int 7), (2, .int o9), (3, .int u9)]) hx hb dX2_tryBits_65 hl (by decide) rfl (fun ls hl => ?_)
            refine lv_iload_n hx hb dX2_tryBits_67 rfl (lv_at hl 6 rfl) ?_
            refine lv_iload hx hb dX2_tryBits_68 (lv_at hl 1 rfl) ?_
            refine lv_ishr hx hb dX2_tryBits_70 ?_
            refine lv_topi (fun z_11 ez_11 => ?_)
            refine lv_iconst (v := 1) hx hb dX2_tryBits_71 (by decide +kernel) ?_
            refine lv_iand hx hb dX2_tryBits_72 ?_
            refine lv_topi (fun z_12 ez_12 => ?_)
            have hbz_12 : 0 ≤ z_12.toInt ∧ z_12.toInt ≤ 1 := by rw [ez_12]; exact my_andR (by decide +kernel) (by decide +kernel)
            refine lv_if_eq (tgt := 111) hx hb dX2_tryBits_73 (by decide) (fun c73 => ?_) (fun c73 => ?_)
            ·
              have d73 : z_12.toInt = (0 : Int) := my_eq c73 rfl (by decide +kernel)
              obtain ⟨z_13, ez_13⟩ : ∃ y : Int32, y = x + (-1) := ⟨_, rfl⟩
              try have tz_13 : z_13.toInt = x.toInt + (-1) := by rw [ez_13]; exact my_addI rfl (by decide +kernel) (by omega) (by omega)
              refine lv_iinc (v := z_13) (lv' := [(7, .int z_13), (8, .int z_10), (6, .int z_4), (4, .long r_1), (0, .ref xr), (1, .int 7), (2, .int o9), (3, .int u9)]) hx hb dX2_tryBits_111 hl (k := 1) rfl (by rw [ez_13]; rfl) (by decide) rfl (fun ls hl => ?_)
              refine lv_goto (tgt := 43) hx hb dX2_tryBits_114 (by decide) ?_
              exact ih43  z_13 xr_size_43 xr_variedCount_43 xr_fewest_43 xr_known_43 r2_43 r3_43 r4_43 (by omega) (by first | assumption | omega | decide +kernel) (by first | assumption | omega | decide +kernel) (by first | assumption | omega | decide +kernel) (by first | assumption | omega | decide +kernel) (by first | assumption | omega | decide +kernel) (by first | assumption | omega | decide +kernel) _ _ ls hP hD hS (lv_sub hl [0, 2, 3, 4, 5, 6, 7] rfl)
            ·
              have d73 : z_12.toInt ≠ (0 : Int) := my_ne c73 rfl (by decide +kernel)
              refine lv_iload hx hb dX2_tryBits_76 (lv_at hl 0 rfl) ?_
              refine lv_iload hx hb dX2_tryBits_78 (lv_at hl 2 rfl) ?_
              refine lv_iadd hx hb dX2_tryBits_80 ?_
              refine lv_topi (fun z_14 ez_14 => ?_)
              try have tz_14 : z_14.toInt = z_10.toInt + z_4.toInt := by rw [ez_14]; exact my_addI rfl rfl (by omega) (by omega)
              refine lv_aload_n hx hb dX2_tryBits_81 rfl (lv_at hl 4 rfl) ?_
              refine va_get (ci := 2) (v := .int xr_fewest_43) (C := RX2) (T := TX2) (N := 9) hx hb hts hi2 hown hK hP 0 rfl rfl 7 (by decide) fl37 (fun _ h9 => h9) rfl dX2_tryBits_82 ?_
              refine lv_icmp_ge (tgt := 111) hx hb dX2_tryBits_85 (by decide) (fun c85 => ?_) (fun c85 => ?_)
              ·
                have d85 : z_14.toInt ≥ xr_fewest_43.toInt := my_ge c85 rfl rfl
                obtain ⟨z_15, ez_15⟩ : ∃ y : Int32, y = x + (-1) := ⟨_, rfl⟩
                try have tz_15 : z_15.toInt = x.toInt + (-1) := by rw [ez_15]; exact my_addI rfl (by decide +kernel) (by omega) (by omega)
                refine lv_iinc (v := z_15) (lv' := [(7, .int z_15), (8, .int z_10), (6, .int z_4), (4, .long r_1), (0, .ref xr), (1, .int 7), (2, .int o9), (3, .int u9)]) hx hb dX2_tryBits_111 hl (k := 1) rfl (by rw [ez_15]; rfl) (by decide) rfl (fun ls hl => ?_)
                refine lv_goto (tgt := 43) hx hb dX2_tryBits_114 (by decide) ?_
                exact ih43  z_15 xr_size_43 xr_variedCount_43 xr_fewest_43 xr_known_43 r2_43 r3_43 r4_43 (by omega) (by first | assumption | omega | decide +kernel) (by first | assumption | omega | decide +kernel) (by first | assumption | omega | decide +kernel) (by first | assumption | omega | decide +kernel) (by first | assumption | omega | decide +kernel) (by first | assumption | omega | decide +kernel) _ _ ls hP hD hS (lv_sub hl [0, 2, 3, 4, 5, 6, 7] rfl)
              ·
                have d85 : z_14.toInt < xr_fewest_43.toInt := my_nge c85 rfl rfl
                refine lv_aload_n hx hb dX2_tryBits_88 rfl (lv_at hl 4 rfl) ?_
                refine va_get (ci := 2) (v := .ref r3) (C := RX2) (T := TX2) (N := 9) hx hb hts hi2 hown hK hP 0 rfl rfl 2 (by decide) fl20 (fun _ h9 => h9) rfl dX2_tryBits_89 ?_
                refine lv_iload_n hx hb dX2_tryBits_92 rfl (lv_at hl 5 rfl) ?_
                refine lv_iload hx hb dX2_tryBits_93 (lv_at hl 1 rfl) ?_
                refine va_iast hx hb hK hP hD hS 3 0 rfl rfl (vp_in_nI (n := 7) (by omega) (by omega)) dX2_tryBits_95 (fun H locs hP hD hS => ?_)
                obtain ⟨g_16, eg_16⟩ : ∃ g : Nat → Int32, g = upd r3_43 7 x := ⟨_, rfl⟩
                have eU : upd r3_43 (7 : Int32).toNatClampNeg x = g_16 := by rw [eg_16, show (7 : Int32).toNatClampNeg = 7 from by decide +kernel]
                rw [eU] at hP hD
                have hP : va_P D vwCl (wl_k_X2_tryBits_7 cI cJ cK xr r1 r2 r3 r4 r5 w0 w1 w2 w3 w4 w5 w6 w7 (nI xr_size_43) (nI xr_variedCount_43) xr_fewest_43 xr_known_43 r2_43 g_16 r4_43 wf7) H := hP
                have hD : va_D A (wl_k_X2_tryBits_7 cI cJ cK xr r1 r2 r3 r4 r5 w0 w1 w2 w3 w4 w5 w6 w7 (nI xr_size_43) (nI xr_variedCount_43) xr_fewest_43 xr_known_43 r2_43 g_16 r4_43 wf7) := hD
                refine lv_aload_n hx hb dX2_tryBits_96 rfl (lv_at hl 4 rfl) ?_
                refine lv_iload_n hx hb dX2_tryBits_97 rfl (lv_at hl 5 rfl) ?_
                refine lv_iload_n hx hb dX2_tryBits_98 rfl (lv_at hl 6 rfl) ?_
                refine lv_iconst (v := 1) hx hb dX2_tryBits_99 (by decide +kernel) ?_
                refine lv_iload hx hb dX2_tryBits_100 (lv_at hl 1 rfl) ?_
                refine lv_ishl hx hb dX2_tryBits_102 ?_
                refine lv_topi (fun z_17 ez_17 => ?_)
                refine lv_iconst (v := (-1)) hx hb dX2_tryBits_103 (by decide +kernel) ?_
                refine lv_ixor hx hb dX2_tryBits_104 ?_
                refine lv_topi (fun z_18 ez_18 => ?_)
                refine lv_iand hx hb dX2_tryBits_105 ?_
                refine lv_topi (fun z_19 ez_19 => ?_)
                refine lv_iload hx hb dX2_tryBits_106 (lv_at hl 0 rfl) ?_
                refine my_goVS (wc := (wl_k_X2_takeBit_7 cI cJ cK xr r1 r2 r3 r4 r5 w0 w1 w2 w3 w4 w5 w6 w7 (nI xr_size_43) (nI xr_variedCount_43) xr_fewest_43 xr_known_43 r2_43 g_16 r4_43 wf7)) hP hD hS hA [0, 1, 2, 3, 4, 5] rfl [some 0, some 1, some 2, some 3, some 4, some 5] (by decide +kernel) (my_cV (As := [.int 7, .int z_19, .int z_10]) (rest := []) (ci := 2) (wc := (wl_k_X2_takeBit_7 cI cJ cK xr r1 r2 r3 r4 r5 w0 w1 w2 w3 w4 w5 w6 w7 (nI xr_size_43) (nI xr_variedCount_43) xr_fewest_43 xr_known_43 r2_43 g_16 r4_43 wf7)) ⟨hx, hb, hml, hown, hts⟩ (cwV 3 hts gX2_tryBits_X2_takeBit rfl rfl rfl (by decide +kernel) ⟨Nat.le_of_ble_eq_true rfl, Nat.le_of_ble_eq_true rfl⟩) hN hK hP hD [0, 1, 2, 3, 4, 5] rfl (by decide) rfl 0 rfl rfl rfl rfl hl.1 rfl (Nat.le_of_ble_eq_true rfl) dX2_tryBits_108 ⟨Nat.le_of_ble_eq_true rfl, Nat.le_of_ble_eq_true rfl⟩  ((k_X2_takeBit_7 l D cI cJ cK xr r1 r2 r3 r4 r5 w0 w1 w2 w3 w4 w5 w6 w7 xr_size_43 xr_variedCount_43 xr_fewest_43 xr_known_43 r2_43 g_16 r4_43 wf7 z_19 z_10 (by first | assumption | omega | decide +kernel) (by first | assumption | omega | decide +kernel)) _)) (fun u H locs hp hPD hS => ?_)
                obtain ⟨rz_20, rv_21, rw_22, rk_23, ro_24, rt_25, rb_26, rfl, hhz_rz_27, hhz_rv_28, hv_29, hz_30⟩ := hp
                obtain ⟨hP, hD⟩ := hPD rfl
                have hP : va_P D vwCl (wl_k_X2_tryBits_7 cI cJ cK xr r1 r2 r3 r4 r5 w0 w1 w2 w3 w4 w5 w6 w7 (nI rz_20) (nI rv_21) rw_22 rk_23 ro_24 rt_25 rb_26 wf7) H := hP
                have hD : va_D A (wl_k_X2_tryBits_7 cI cJ cK xr r1 r2 r3 r4 r5 w0 w1 w2 w3 w4 w5 w6 w7 (nI rz_20) (nI rv_21) rw_22 rk_23 ro_24 rt_25 rb_26 wf7) := hD
                obtain ⟨z_31, ez_31⟩ : ∃ y : Int32, y = x + (-1) := ⟨_, rfl⟩
                try have tz_31 : z_31.toInt = x.toInt + (-1) := by rw [ez_31]; exact my_addI rfl (by decide +kernel) (by omega) (by omega)
                refine lv_iinc (v := z_31) (lv' := [(7, .int z_31), (8, .int z_10), (6, .int z_4), (4, .long r_1), (0, .ref xr), (1, .int 7), (2, .int o9), (3, .int u9)]) hx hb dX2_tryBits_111 hl (k := 1) rfl (by rw [ez_31]; rfl) (by decide) rfl (fun ls hl => ?_)
                refine lv_goto (tgt := 43) hx hb dX2_tryBits_114 (by decide) ?_
                exact ih43  z_31 rz_20 rv_21 rw_22 rk_23 ro_24 rt_25 rb_26 (by omega) (by first | assumption | omega | decide +kernel) (by first | assumption | omega | decide +kernel) (by first | assumption | omega | decide +kernel) (by first | assumption | omega | decide +kernel) (by first | assumption | omega | decide +kernel) (by first | assumption | omega | decide +kernel) _ _ ls hP hD hS (lv_sub hl [0, 2, 3, 4, 5, 6, 7] rfl)
      have ec_32 : (7 : Int32).toInt = 7 := by decide +kernel
      exact loop43 ((((7 : Int32).toInt + 1).toNat) + 1) (7 : Int32) rz rv rw rk ro rt rb (Nat.lt_succ_self _) (by first | assumption | omega | decide +kernel) (by first | assumption | omega | decide +kernel) (by first | assumption | omega | decide +kernel) (by first | assumption | omega | decide +kernel) (by first | assumption | omega | decide +kernel) (by first | assumption | omega | decide +kernel) _ _ ls hP hD hS (lv_sub hl [0, 1, 2, 3, 4, 5, 6] rfl)
    ·
      exact absurd c11 (by decide +kernel)
abbrev wl_k_X2_takeBit_6 (cI cJ cK : ClassId) (xr : Nat) (r1 : Nat) (r2 : Nat) (r3 : Nat) (r4 : Nat) (r5 : Nat) (w0 : Nat) (w1 : Nat) (w2 : Nat) (w3 : Nat) (w4 : Nat) (w5 : Nat) (w6 : Nat) (w7 : Nat) (v0_ : Int32) (v1_ : Int32) (v2_ : Int32) (v3_ : Int32) (v4_ : Nat → Int64) (v5_ : Nat → Int32) (v6_ : Nat → Int32) (v7_ : Nat → Int64) (v8_ : Nat → Int64) : va_W := [(xr, .inr (2, [.ref r1, .ref r2, .ref r3, .ref r4, .ref r5, .int v0_, .int v1_, .int v2_, .int v3_])), (r1, .inl (cK, 8, .inr (.inr (.inr (.inr (fun j => ([w0, w1, w2, w3, w4, w5, w6, w7] : List Nat)[j]?)))))), (r2, .inl (cJ, 64, .inr (.inl v4_))), (r3, .inl (cI, 8, .inl v5_)), (r4, .inl (cI, 8, .inl v6_)), (w6, .inl (cJ, 64, .inr (.inl v7_))), (w7, .inl (cJ, 64, .inr (.inl v8_)))]
set_option maxHeartbeats 4000000 in
set_option maxRecDepth 100000 in
theorem k_X2_takeBit_6 (l : Launch) (D : va_G) (cI cJ cK : ClassId) (xr : Nat) (r1 : Nat) (r2 : Nat) (r3 : Nat) (r4 : Nat) (r5 : Nat) (w0 : Nat) (w1 : Nat) (w2 : Nat) (w3 : Nat) (w4 : Nat) (w5 : Nat) (w6 : Nat) (w7 : Nat) (rz : Nat) (rv : Nat) (rw : Int32) (rk : Int32) (ro : Nat → Int64) (rt : Nat → Int32) (rb : Nat → Int32) (wf6 : Nat → Int64) (wf7 : Nat → Int64) (o9 : Int32) (u9 : Int32) (hz_rz : rz ≤ 64) (hz_rv : rv ≤ 8) : ctV l yX2_takeBit wsX2_takeBit ({ frames := 4, cells := 0, slots := 0, locals := 240 } : Room) D (tyIJ cI cJ cK) [.ref xr, .int 6, .int o9, .int u9] (wl_k_X2_takeBit_6 cI cJ cK xr r1 r2 r3 r4 r5 w0 w1 w2 w3 w4 w5 w6 w7 (nI rz) (nI rv) rw rk ro rt rb wf6 wf7) (fun (u : va_W) => ∃ (rz' : Nat) (rv' : Nat) (rw' : Int32) (rk' : Int32) (ro' : Nat → Int64) (rt' : Nat → Int32) (rb' : Nat → Int32) (wf7' : Nat → Int64), u = (wl_k_X2_takeBit_6 cI cJ cK xr r1 r2 r3 r4 r5 w0 w1 w2 w3 w4 w5 w6 w7 (nI rz') (nI rv') rw' rk' ro' rt' rb' wf6 wf7') ∧ rz' ≤ 64 ∧ rv' ≤ 8 ∧ rv' = rv ∧ rz' = rz) := by
  refine ctV.of (cc := cX2_takeBit) (maxL := 4) (ret := none) (by decide) rfl (Nat.le_of_ble_eq_true rfl) ?_
  intro p e s m below meth c ls A hx hb hr hts hown hml hlocks hname hA hK hN hP hD hS hl
  have hl : lv_has ls 4 [(0, .ref xr), (1, .int 6), (2, .int o9), (3, .int u9)] := hl
  have hown : s.vm.findClass RX2 = some m.cls := hown
  have hi2 : ∀ w ∈ u_ws RX2 TX2 9, w ∈ wsX2_takeBit := by decide +kernel
  have fl11 := hts (.fieldLink RX2 11 "PlaneColumn$OrderSearch" "lines" "[[J") (by decide +kernel)
  have fl20 := hts (.fieldLink RX2 20 "PlaneColumn$OrderSearch" "tried" "[I") (by decide +kernel)
  have fl24 := hts (.fieldLink RX2 24 "PlaneColumn$OrderSearch" "best" "[I") (by decide +kernel)
  have fl34 := hts (.fieldLink RX2 34 "PlaneColumn$OrderSearch" "variedCount" "I") (by decide +kernel)
  have fl37 := hts (.fieldLink RX2 37 "PlaneColumn$OrderSearch" "fewest" "I") (by decide +kernel)
  refine lv_iload_n hx hb dX2_takeBit_0 rfl (lv_at hl 2 rfl) ?_
  refine lv_if_ne (tgt := 29) hx hb dX2_takeBit_1 (by decide) (fun c1 => ?_) (fun c1 => ?_)
  ·
    have d1 : o9.toInt ≠ (0 : Int) := my_ne c1 rfl (by decide +kernel)
    refine lv_iload_n hx hb dX2_takeBit_29 rfl (lv_at hl 1 rfl) ?_
    refine lv_iconst (v := 1) hx hb dX2_takeBit_30 (by decide +kernel) ?_
    refine lv_iadd hx hb dX2_takeBit_31 ?_
    refine my_eqi (y := 7) (by decide +kernel) ?_
    refine lv_bipush (v := 8) hx hb dX2_takeBit_32 (by decide +kernel) ?_
    refine lv_icmp_ge (tgt := 70) hx hb dX2_takeBit_34 (by decide) (fun c34 => ?_) (fun c34 => ?_)
    ·
      exact absurd c34 (by decide +kernel)
    ·
      refine lv_aload_n hx hb dX2_takeBit_37 rfl (lv_at hl 0 rfl) ?_
      refine lv_aload_n hx hb dX2_takeBit_38 rfl (lv_at hl 0 rfl) ?_
      refine va_get (ci := 2) (v := .ref r1) (C := RX2) (T := TX2) (N := 9) hx hb hts hi2 hown hK hP 0 rfl rfl 0 (by decide) fl11 (fun _ h9 => h9) rfl dX2_takeBit_39 ?_
      refine lv_iload_n hx hb dX2_takeBit_42 rfl (lv_at hl 1 rfl) ?_
      refine my_aald hx hb hK hP 1 rfl (vp_in_nI (n := 6) (by omega) (by omega)) dX2_takeBit_43 ?_
      refine my_eqa (y := .ref w6) (by rw [show (6 : Int32).toNatClampNeg = 6 by decide +kernel]; rfl) ?_
      refine lv_aload_n hx hb dX2_takeBit_44 rfl (lv_at hl 0 rfl) ?_
      refine va_get (ci := 2) (v := .ref r1) (C := RX2) (T := TX2) (N := 9) hx hb hts hi2 hown hK hP 0 rfl rfl 0 (by decide) fl11 (fun _ h9 => h9) rfl dX2_takeBit_45 ?_
      refine lv_iload_n hx hb dX2_takeBit_48 rfl (lv_at hl 1 rfl) ?_
      refine lv_iconst (v := 1) hx hb dX2_takeBit_49 (by decide +kernel) ?_
      refine lv_iadd hx hb dX2_takeBit_50 ?_
      refine my_eqi (y := 7) (by decide +kernel) ?_
      refine my_aald hx hb hK hP 1 rfl (vp_in_nI (n := 7) (by omega) (by omega)) dX2_takeBit_51 ?_
      refine my_eqa (y := .ref w7) (by rw [show (7 : Int32).toNatClampNeg = 7 by decide +kernel]; rfl) ?_
      refine lv_aload_n hx hb dX2_takeBit_52 rfl (lv_at hl 0 rfl) ?_
      refine va_get (ci := 2) (v := .ref r3) (C := RX2) (T := TX2) (N := 9) hx hb hts hi2 hown hK hP 0 rfl rfl 2 (by decide) fl20 (fun _ h9 => h9) rfl dX2_takeBit_53 ?_
      refine lv_iload_n hx hb dX2_takeBit_56 rfl (lv_at hl 1 rfl) ?_
      refine va_iald hx hb hK hP 3 0 rfl rfl (vp_in_nI (n := 6) (by omega) (by omega)) dX2_takeBit_57 ?_
      refine my_eqi (y := rt 6) (congrArg rt (show (6 : Int32).toNatClampNeg = 6 by decide +kernel)) ?_
      refine my_goVS (wc := (wl_k_X2_part cI cJ cK xr r1 r2 r3 r4 r5 w6 w7 (nI rz) (nI rv) rw rk ro wf6 wf7)) hP hD hS hA [0, 2, 5, 6] rfl [some 0, none, some 1, none, none, some 2, some 3] (by decide +kernel) (my_cV (As := [.ref w6, .ref w7, .int (rt 6)]) (rest := []) (ci := 2) (wc := (wl_k_X2_part cI cJ cK xr r1 r2 r3 r4 r5 w6 w7 (nI rz) (nI rv) rw rk ro wf6 wf7)) ⟨hx, hb, hml, hown, hts⟩ (cwV 3 hts gX2_takeBit_X2_part rfl rfl rfl (by decide +kernel) ⟨Nat.le_of_ble_eq_true rfl, Nat.le_of_ble_eq_true rfl⟩) hN hK hP hD [0, 2, 5, 6] rfl (by decide) rfl 0 rfl rfl rfl rfl hl.1 rfl (Nat.le_of_ble_eq_true rfl) dX2_takeBit_58 ⟨Nat.le_of_ble_eq_true rfl, Nat.le_of_ble_eq_true rfl⟩  ((k_X2_part l D cI cJ cK xr r1 r2 r3 r4 r5 w6 w7 rz rv rw rk ro wf6 wf7 (rt 6) (by first | assumption | omega | decide +kernel) (by first | assumption | omega | decide +kernel)) _)) (fun u H locs hp hPD hS => ?_)
      obtain ⟨ro_2, wfb_3, rfl⟩ := hp
      obtain ⟨hP, hD⟩ := hPD rfl
      have hP : va_P D vwCl (wl_k_X2_takeBit_6 cI cJ cK xr r1 r2 r3 r4 r5 w0 w1 w2 w3 w4 w5 w6 w7 (nI rz) (nI rv) rw rk ro_2 rt rb wf6 wfb_3) H := hP
      have hD : va_D A (wl_k_X2_takeBit_6 cI cJ cK xr r1 r2 r3 r4 r5 w0 w1 w2 w3 w4 w5 w6 w7 (nI rz) (nI rv) rw rk ro_2 rt rb wf6 wfb_3) := hD
      refine lv_aload_n hx hb dX2_takeBit_61 rfl (lv_at hl 0 rfl) ?_
      refine lv_iload_n hx hb dX2_takeBit_62 rfl (lv_at hl 1 rfl) ?_
      refine lv_iconst (v := 1) hx hb dX2_takeBit_63 (by decide +kernel) ?_
      refine lv_iadd hx hb dX2_takeBit_64 ?_
      refine my_eqi (y := 7) (by decide +kernel) ?_
      refine lv_iload_n hx hb dX2_takeBit_65 rfl (lv_at hl 2 rfl) ?_
      refine lv_iload_n hx hb dX2_takeBit_66 rfl (lv_at hl 3 rfl) ?_
      refine my_goVS (wc := (wl_k_X2_tryBits_7 cI cJ cK xr r1 r2 r3 r4 r5 w0 w1 w2 w3 w4 w5 w6 w7 (nI rz) (nI rv) rw rk ro_2 rt rb wfb_3)) hP hD hS hA [0, 1, 2, 3, 4, 6] rfl [some 0, some 1, some 2, some 3, some 4, none, some 5] (by decide +kernel) (my_cV (As := [.int 7, .int o9, .int u9]) (rest := []) (ci := 2) (wc := (wl_k_X2_tryBits_7 cI cJ cK xr r1 r2 r3 r4 r5 w0 w1 w2 w3 w4 w5 w6 w7 (nI rz) (nI rv) rw rk ro_2 rt rb wfb_3)) ⟨hx, hb, hml, hown, hts⟩ (cwV 3 hts gX2_takeBit_X2_tryBits rfl rfl rfl (by decide +kernel) ⟨Nat.le_of_ble_eq_true rfl, Nat.le_of_ble_eq_true rfl⟩) hN hK hP hD [0, 1, 2, 3, 4, 6] rfl (by decide) rfl 0 rfl rfl rfl rfl hl.1 rfl (Nat.le_of_ble_eq_true rfl) dX2_takeBit_67 ⟨Nat.le_of_ble_eq_true rfl, Nat.le_of_ble_eq_true rfl⟩  ((k_X2_tryBits_7 l D cI cJ cK xr r1 r2 r3 r4 r5 w0 w1 w2 w3 w4 w5 w6 w7 rz rv rw rk ro_2 rt rb wfb_3 o9 u9 (by first | assumption | omega | decide +kernel) (by first | assumption | omega | decide +kernel)) _)) (fun u H locs hp hPD hS => ?_)
      obtain ⟨rz_4, rv_5, rw_6, rk_7, ro_8, rt_9, rb_10, rfl, hhz_rz_11, hhz_rv_12, hv_13, hz_14⟩ := hp
      obtain ⟨hP, hD⟩ := hPD rfl
      have hP : va_P D vwCl (wl_k_X2_takeBit_6 cI cJ cK xr r1 r2 r3 r4 r5 w0 w1 w2 w3 w4 w5 w6 w7 (nI rz_4) (nI rv_5) rw_6 rk_7 ro_8 rt_9 rb_10 wf6 wfb_3) H := hP
      have hD : va_D A (wl_k_X2_takeBit_6 cI cJ cK xr r1 r2 r3 r4 r5 w0 w1 w2 w3 w4 w5 w6 w7 (nI rz_4) (nI rv_5) rw_6 rk_7 ro_8 rt_9 rb_10 wf6 wfb_3) := hD
      exact my_retV hx hb hr hlocks hK hS (wl_k_X2_takeBit_6 cI cJ cK xr r1 r2 r3 r4 r5 w0 w1 w2 w3 w4 w5 w6 w7 (nI rz_4) (nI rv_5) rw_6 rk_7 ro_8 rt_9 rb_10 wf6 wfb_3) hP hD (⟨rz_4, rv_5, rw_6, rk_7, ro_8, rt_9, rb_10, wfb_3, rfl, (by first | assumption | omega | trivial | decide +kernel), (by first | assumption | omega | trivial | decide +kernel), (by first | assumption | omega | trivial | decide +kernel), (by first | assumption | omega | trivial | decide +kernel)⟩) dX2_takeBit_70
  ·
    have d1 : o9.toInt = (0 : Int) := my_eq c1 rfl (by decide +kernel)
    refine lv_aload_n hx hb dX2_takeBit_4 rfl (lv_at hl 0 rfl) ?_
    refine lv_iload_n hx hb dX2_takeBit_5 rfl (lv_at hl 3 rfl) ?_
    refine va_put (ci := 2) (v := .int u9) (ty := (.int)) (C := RX2) (T := TX2) (N := 9) hx hb hts hi2 tyX2 tyX2_ok nmX2 hown hK hP hD hS 0 rfl rfl 7 (by decide) fl37 (fun _ h9 => h9) rfl (by decide +kernel) rfl rfl (Nat.le_of_ble_eq_true rfl) dX2_takeBit_6 (fun H locs hP hD hS => ?_)
    have hP : va_P D vwCl (wl_k_X2_takeBit_6 cI cJ cK xr r1 r2 r3 r4 r5 w0 w1 w2 w3 w4 w5 w6 w7 (nI rz) (nI rv) u9 rk ro rt rb wf6 wf7) H := hP
    have hD : va_D A (wl_k_X2_takeBit_6 cI cJ cK xr r1 r2 r3 r4 r5 w0 w1 w2 w3 w4 w5 w6 w7 (nI rz) (nI rv) u9 rk ro rt rb wf6 wf7) := hD
    refine lv_aload_n hx hb dX2_takeBit_9 rfl (lv_at hl 0 rfl) ?_
    refine va_get (ci := 2) (v := .ref r3) (C := RX2) (T := TX2) (N := 9) hx hb hts hi2 hown hK hP 0 rfl rfl 2 (by decide) fl20 (fun _ h9 => h9) rfl dX2_takeBit_10 ?_
    refine lv_iconst (v := 0) hx hb dX2_takeBit_13 (by decide +kernel) ?_
    refine lv_aload_n hx hb dX2_takeBit_14 rfl (lv_at hl 0 rfl) ?_
    refine va_get (ci := 2) (v := .ref r4) (C := RX2) (T := TX2) (N := 9) hx hb hts hi2 hown hK hP 0 rfl rfl 3 (by decide) fl24 (fun _ h9 => h9) rfl dX2_takeBit_15 ?_
    refine lv_iconst (v := 0) hx hb dX2_takeBit_18 (by decide +kernel) ?_
    refine lv_aload_n hx hb dX2_takeBit_19 rfl (lv_at hl 0 rfl) ?_
    refine va_get (ci := 2) (v := .int (nI rv)) (C := RX2) (T := TX2) (N := 9) hx hb hts hi2 hown hK hP 0 rfl rfl 6 (by decide) fl34 (fun _ h9 => h9) rfl dX2_takeBit_20 ?_
    refine va_copyi hx hb (hml.trans hl.1.symm) hown (hts (.methodLink RX2 75 arraycopyName) (by decide +kernel)) (hts (.native arraycopyName) (by decide +kernel)) (hts (.static arraycopyName) (by decide +kernel)) (hts (.initialized "java/lang/System") (by decide +kernel)) hK hP hD hS 3 4 0 0 rfl rfl rfl rfl rfl (by decide +kernel) (by decide +kernel) (nI_nneg (by omega)) (by rw [show (0 : Int32).toNatClampNeg = 0 from (by decide +kernel), show (nI rv : Int32).toNatClampNeg = rv from (nI_clamp (by omega))]; omega) (by rw [show (0 : Int32).toNatClampNeg = 0 from (by decide +kernel), show (nI rv : Int32).toNatClampNeg = rv from (nI_clamp (by omega))]; omega) (fun _ _ => rfl) (Nat.le_of_ble_eq_true rfl) (Nat.le_of_ble_eq_true rfl) dX2_takeBit_23 (fun H locs hP hD hS => ?_)
    obtain ⟨g_15, eg_15⟩ : ∃ g : Nat → Int32, g = va_cpy rt rb 0 0 rv := ⟨_, rfl⟩
    have eU : va_cpy rt rb (0 : Int32).toNatClampNeg (0 : Int32).toNatClampNeg (nI rv : Int32).toNatClampNeg = g_15 := by rw [eg_15, show (0 : Int32).toNatClampNeg = 0 from (by decide +kernel), show (nI rv : Int32).toNatClampNeg = rv from (nI_clamp (by omega))]
    rw [eU] at hP hD
    have hP : va_P D vwCl (wl_k_X2_takeBit_6 cI cJ cK xr r1 r2 r3 r4 r5 w0 w1 w2 w3 w4 w5 w6 w7 (nI rz) (nI rv) u9 rk ro rt g_15 wf6 wf7) H := hP
    have hD : va_D A (wl_k_X2_takeBit_6 cI cJ cK xr r1 r2 r3 r4 r5 w0 w1 w2 w3 w4 w5 w6 w7 (nI rz) (nI rv) u9 rk ro rt g_15 wf6 wf7) := hD
    refine lv_goto (tgt := 70) hx hb dX2_takeBit_26 (by decide) ?_
    exact my_retV hx hb hr hlocks hK hS (wl_k_X2_takeBit_6 cI cJ cK xr r1 r2 r3 r4 r5 w0 w1 w2 w3 w4 w5 w6 w7 (nI rz) (nI rv) u9 rk ro rt g_15 wf6 wf7) hP hD (⟨rz, rv, u9, rk, ro, rt, g_15, wf7, rfl, (by first | assumption | omega | trivial | decide +kernel), (by first | assumption | omega | trivial | decide +kernel), (by first | assumption | omega | trivial | decide +kernel), (by first | assumption | omega | trivial | decide +kernel)⟩) dX2_takeBit_70
abbrev wl_k_X2_tryBits_6 (cI cJ cK : ClassId) (xr : Nat) (r1 : Nat) (r2 : Nat) (r3 : Nat) (r4 : Nat) (r5 : Nat) (w0 : Nat) (w1 : Nat) (w2 : Nat) (w3 : Nat) (w4 : Nat) (w5 : Nat) (w6 : Nat) (w7 : Nat) (v0_ : Int32) (v1_ : Int32) (v2_ : Int32) (v3_ : Int32) (v4_ : Nat → Int64) (v5_ : Nat → Int32) (v6_ : Nat → Int32) (v7_ : Nat → Int64) (v8_ : Nat → Int64) : va_W := [(xr, .inr (2, [.ref r1, .ref r2, .ref r3, .ref r4, .ref r5, .int v0_, .int v1_, .int v2_, .int v3_])), (r1, .inl (cK, 8, .inr (.inr (.inr (.inr (fun j => ([w0, w1, w2, w3, w4, w5, w6, w7] : List Nat)[j]?)))))), (r2, .inl (cJ, 64, .inr (.inl v4_))), (r3, .inl (cI, 8, .inl v5_)), (r4, .inl (cI, 8, .inl v6_)), (w6, .inl (cJ, 64, .inr (.inl v7_))), (w7, .inl (cJ, 64, .inr (.inl v8_)))]
set_option maxHeartbeats 4000000 in
set_option maxRecDepth 100000 in
theorem k_X2_tryBits_6 (l : Launch) (D : va_G) (cI cJ cK : ClassId) (xr : Nat) (r1 : Nat) (r2 : Nat) (r3 : Nat) (r4 : Nat) (r5 : Nat) (w0 : Nat) (w1 : Nat) (w2 : Nat) (w3 : Nat) (w4 : Nat) (w5 : Nat) (w6 : Nat) (w7 : Nat) (rz : Nat) (rv : Nat) (rw : Int32) (rk : Int32) (ro : Nat → Int64) (rt : Nat → Int32) (rb : Nat → Int32) (wf6 : Nat → Int64) (wf7 : Nat → Int64) (o9 : Int32) (u9 : Int32) (hz_rz : rz ≤ 64) (hz_rv : rv ≤ 8) : ctV l yX2_tryBits wsX2_tryBits ({ frames := 5, cells := 0, slots := 0, locals := 300 } : Room) D (tyIJ cI cJ cK) [.ref xr, .int 6, .int o9, .int u9] (wl_k_X2_tryBits_6 cI cJ cK xr r1 r2 r3 r4 r5 w0 w1 w2 w3 w4 w5 w6 w7 (nI rz) (nI rv) rw rk ro rt rb wf6 wf7) (fun (u : va_W) => ∃ (rz' : Nat) (rv' : Nat) (rw' : Int32) (rk' : Int32) (ro' : Nat → Int64) (rt' : Nat → Int32) (rb' : Nat → Int32) (wf7' : Nat → Int64), u = (wl_k_X2_tryBits_6 cI cJ cK xr r1 r2 r3 r4 r5 w0 w1 w2 w3 w4 w5 w6 w7 (nI rz') (nI rv') rw' rk' ro' rt' rb' wf6 wf7') ∧ rz' ≤ 64 ∧ rv' ≤ 8 ∧ rv' = rv ∧ rz' = rz) := by
  refine ctV.of (cc := cX2_tryBits) (maxL := 9) (ret := none) (by decide) rfl (Nat.le_of_ble_eq_true rfl) ?_
  intro p e s m below meth c ls A hx hb hr hts hown hml hlocks hname hA hK hN hP hD hS hl
  have hl : lv_has ls 9 [(0, .ref xr), (1, .int 6), (2, .int o9), (3, .int u9)] := hl
  have hown : s.vm.findClass RX2 = some m.cls := hown
  have hi2 : ∀ w ∈ u_ws RX2 TX2 9, w ∈ wsX2_tryBits := by decide +kernel
  have fl11 := hts (.fieldLink RX2 11 "PlaneColumn$OrderSearch" "lines" "[[J") (by decide +kernel)
  have fl20 := hts (.fieldLink RX2 20 "PlaneColumn$OrderSearch" "tried" "[I") (by decide +kernel)
  have fl34 := hts (.fieldLink RX2 34 "PlaneColumn$OrderSearch" "variedCount" "I") (by decide +kernel)
  have fl37 := hts (.fieldLink RX2 37 "PlaneColumn$OrderSearch" "fewest" "I") (by decide +kernel)
  refine lv_iload_n hx hb dX2_tryBits_0 rfl (lv_at hl 1 rfl) ?_
  refine lv_aload_n hx hb dX2_tryBits_1 rfl (lv_at hl 0 rfl) ?_
  refine va_get (ci := 2) (v := .int (nI rv)) (C := RX2) (T := TX2) (N := 9) hx hb hts hi2 hown hK hP 0 rfl rfl 6 (by decide) fl34 (fun _ h9 => h9) rfl dX2_tryBits_2 ?_
  refine lv_icmp_ge (tgt := 14) hx hb dX2_tryBits_5 (by decide) (fun c5 => ?_) (fun c5 => ?_)
  ·
    have d5 : (6 : Int) ≥ ((rv : Nat) : Int) := my_ge c5 (by decide +kernel) (nI_toInt (by omega))
    exact my_retV hx hb hr hlocks hK hS (wl_k_X2_tryBits_6 cI cJ cK xr r1 r2 r3 r4 r5 w0 w1 w2 w3 w4 w5 w6 w7 (nI rz) (nI rv) rw rk ro rt rb wf6 wf7) hP hD (⟨rz, rv, rw, rk, ro, rt, rb, wf7, rfl, (by first | assumption | omega | trivial | decide +kernel), (by first | assumption | omega | trivial | decide +kernel), (by first | assumption | omega | trivial | decide +kernel), (by first | assumption | omega | trivial | decide +kernel)⟩) dX2_tryBits_14
  ·
    have d5 : (6 : Int) < ((rv : Nat) : Int) := my_nge c5 (by decide +kernel) (nI_toInt (by omega))
    refine lv_iload_n hx hb dX2_tryBits_8 rfl (lv_at hl 1 rfl) ?_
    refine lv_bipush (v := 8) hx hb dX2_tryBits_9 (by decide +kernel) ?_
    refine lv_icmp_lt (tgt := 15) hx hb dX2_tryBits_11 (by decide) (fun c11 => ?_) (fun c11 => ?_)
    ·
      refine lv_aload_n hx hb dX2_tryBits_15 rfl (lv_at hl 0 rfl) ?_
      refine lv_aload_n hx hb dX2_tryBits_16 rfl (lv_at hl 0 rfl) ?_
      refine va_get (ci := 2) (v := .ref r1) (C := RX2) (T := TX2) (N := 9) hx hb hts hi2 hown hK hP 0 rfl rfl 0 (by decide) fl11 (fun _ h9 => h9) rfl dX2_tryBits_17 ?_
      refine lv_iload_n hx hb dX2_tryBits_20 rfl (lv_at hl 1 rfl) ?_
      refine my_aald hx hb hK hP 1 rfl (vp_in_nI (n := 6) (by omega) (by omega)) dX2_tryBits_21 ?_
      refine my_eqa (y := .ref w6) (by rw [show (6 : Int32).toNatClampNeg = 6 by decide +kernel]; rfl) ?_
      refine my_gpL (my_pV (As := [.ref w6]) (rest := []) (ci := 2) ⟨hx, hb, hml, hown, hts⟩ (cwV 1 hts gX2_tryBits_X2_changesOf rfl rfl rfl (by decide +kernel) ⟨Nat.le_of_ble_eq_true rfl, Nat.le_of_ble_eq_true rfl⟩) hN hK hP [0, 5] rfl 0 rfl rfl rfl rfl hl.1 rfl (Nat.le_of_ble_eq_true rfl) dX2_tryBits_22 ⟨Nat.le_of_ble_eq_true rfl, Nat.le_of_ble_eq_true rfl⟩  (k_X2_changesOf l D cI cJ cK xr r1 r2 r3 r4 r5 w6 rz rv rw rk wf6 (by first | assumption | omega | decide +kernel) (by first | assumption | omega | decide +kernel))) (fun r hp => ?_)
      obtain _ := hp
      obtain ⟨r_1, rfl⟩ : ∃ z, z = r := ⟨_, rfl⟩
      refine lv_lstore (lv' := [(4, .long r_1), (0, .ref xr), (1, .int 6), (2, .int o9), (3, .int u9)]) hx hb dX2_tryBits_25 hl (by decide) rfl (fun ls hl => ?_)
      refine lv_iconst (v := 2) hx hb dX2_tryBits_27 (by decide +kernel) ?_
      refine lv_aload_n hx hb dX2_tryBits_28 rfl (lv_at hl 1 rfl) ?_
      refine va_get (ci := 2) (v := .int (nI rv)) (C := RX2) (T := TX2) (N := 9) hx hb hts hi2 hown hK hP 0 rfl rfl 6 (by decide) fl34 (fun _ h9 => h9) rfl dX2_tryBits_29 ?_
      refine lv_iconst (v := 1) hx hb dX2_tryBits_32 (by decide +kernel) ?_
      refine lv_isub hx hb dX2_tryBits_33 ?_
      refine lv_topi (fun z_2 ez_2 => ?_)
      try have tz_2 : z_2.toInt = ((rv : Nat) : Int) - (1 : Int) := by rw [ez_2]; exact my_subI (nI_toInt (by omega)) (by decide +kernel) (by omega) (by omega)
      refine lv_iload_n hx hb dX2_tryBits_34 rfl (lv_at hl 2 rfl) ?_
      refine lv_isub hx hb dX2_tryBits_35 ?_
      refine lv_topi (fun z_3 ez_3 => ?_)
      try have tz_3 : z_3.toInt = z_2.toInt - (6 : Int) := by rw [ez_3]; exact my_subI rfl (by decide +kernel) (by omega) (by omega)
      refine lv_imul hx hb dX2_tryBits_36 ?_
      refine lv_topi (fun z_4 ez_4 => ?_)
      try have tz_4 : z_4.toInt = (2 : Int) * z_3.toInt := by rw [ez_4]; exact my_mulI (by decide +kernel) rfl (by omega) (by omega)
      refine lv_istore (lv' := [(6, .int z_4), (4, .long r_1), (0, .ref xr), (1, .int 6), (2, .int o9), (3, .int u9)]) hx hb dX2_tryBits_37 hl (by decide) rfl (fun ls hl => ?_)
      refine lv_bipush (v := 7) hx hb dX2_tryBits_39 (by decide +kernel) ?_
      refine lv_istore (lv' := [(7, .int 7), (6, .int z_4), (4, .long r_1), (0, .ref xr), (1, .int 6), (2, .int o9), (3, .int u9)]) hx hb dX2_tryBits_41 hl (by decide) rfl (fun ls hl => ?_)
      have loop43 : ∀ (n9 : Nat) (x : Int32) (xr_size_43 : Nat) (xr_variedCount_43 : Nat) (xr_fewest_43 : Int32) (xr_known_43 : Int32) (r2_43 : Nat → Int64) (r3_43 : Nat → Int32) (r4_43 : Nat → Int32) (w7_43 : Nat → Int64), (x.toInt + 1).toNat < n9 → (-1 ≤ x.toInt) → (x.toInt ≤ 7) → (xr_variedCount_43 = rv) → (xr_size_43 = rz) → (xr_size_43 ≤ 64) → (xr_variedCount_43 ≤ 8) → ∀ (H : Heap) (locs : List Loc) (ls : Array Slot), va_P D vwCl (wl_k_X2_tryBits_6 cI cJ cK xr r1 r2 r3 r4 r5 w0 w1 w2 w3 w4 w5 w6 w7 (nI xr_size_43) (nI xr_variedCount_43) xr_fewest_43 xr_known_43 r2_43 r3_43 r4_43 wf6 w7_43) H → va_D A (wl_k_X2_tryBits_6 cI cJ cK xr r1 r2 r3 r4 r5 w0 w1 w2 w3 w4 w5 w6 w7 (nI xr_size_43) (nI xr_variedCount_43) xr_fewest_43 xr_known_43 r2_43 r3_43 r4_43 wf6 w7_43) → va_S A s.heap H locs → lv_has ls 9 [(7, .int x), (6, .int z_4), (4, .long r_1), (0, .ref xr), (1, .int 6), (2, .int o9), (3, .int u9)] → W p l e ({ frames := 5, cells := 0, slots := 0, locals := 300 } : Room) s m [.ref xr, .int 6, .int o9, .int u9].toArray below meth c H locs 0 0 (MQ below (va_Qv (fun (u : va_W) => ∃ (rz' : Nat) (rv' : Nat) (rw' : Int32) (rk' : Int32) (ro' : Nat → Int64) (rt' : Nat → Int32) (rb' : Nat → Int32) (wf7' : Nat → Int64), u = (wl_k_X2_tryBits_6 cI cJ cK xr r1 r2 r3 r4 r5 w0 w1 w2 w3 w4 w5 w6 w7 (nI rz') (nI rv') rw' rk' ro' rt' rb' wf6 wf7') ∧ rz' ≤ 64 ∧ rv' ≤ 8 ∧ rv' = rv ∧ rz' = rz) (my_B D (tyIJ cI cJ cK) A) A) [.ref xr, .int 6, .int o9, .int u9].toArray s 0 0 A) (F0 m 43 ls []) := by
        intro n9
        induction n9 with
        | zero =>
          intro x xr_size_43 xr_variedCount_43 xr_fewest_43 xr_known_43 r2_43 r3_43 r4_43 w7_43 hn9
          exact absurd hn9 (Nat.not_lt_zero _)
        | succ n9 ih43 =>
          intro x xr_size_43 xr_variedCount_43 xr_fewest_43 xr_known_43 r2_43 r3_43 r4_43 w7_43 hn9 hx0 hx1 hv hzz hz_xr_size_43 hz_xr_variedCount_43 H locs ls hP hD hS hl
          refine lv_iload hx hb dX2_tryBits_43 (lv_at hl 0 rfl) ?_
          refine lv_if_lt (tgt := 117) hx hb dX2_tryBits_45 (by decide) (fun c45 => ?_) (fun c45 => ?_)
          ·
            have d45 : x.toInt < (0 : Int) := my_lt c45 rfl (by decide +kernel)
            exact my_retV hx hb hr hlocks hK hS (wl_k_X2_tryBits_6 cI cJ cK xr r1 r2 r3 r4 r5 w0 w1 w2 w3 w4 w5 w6 w7 (nI xr_size_43) (nI xr_variedCount_43) xr_fewest_43 xr_known_43 r2_43 r3_43 r4_43 wf6 w7_43) hP hD (⟨xr_size_43, xr_variedCount_43, xr_fewest_43, xr_known_43, r2_43, r3_43, r4_43, w7_43, rfl, (by first | assumption | omega | trivial | decide +kernel), (by first | assumption | omega | trivial | decide +kernel), (by first | assumption | omega | trivial | decide +kernel), (by first | assumption | omega | trivial | decide +kernel)⟩) dX2_tryBits_117
          ·
            have d45 : x.toInt ≥ (0 : Int) := my_nlt c45 rfl (by decide +kernel)
            refine lv_iload_n hx hb dX2_tryBits_48 rfl (lv_at hl 6 rfl) ?_
            refine lv_iconst (v := 1) hx hb dX2_tryBits_49 (by decide +kernel) ?_
            refine lv_iadd hx hb dX2_tryBits_50 ?_
            refine lv_topi (fun z_5 ez_5 => ?_)
            try have tz_5 : z_5.toInt = u9.toInt + (1 : Int) := by rw [ez_5]; exact my_addI rfl (by decide +kernel) (by omega) (by omega)
            refine lv_lload hx hb dX2_tryBits_51 (lv_at hl 2 rfl) ?_
            refine lv_bipush (v := 8) hx hb dX2_tryBits_53 (by decide +kernel) ?_
            refine lv_iload hx hb dX2_tryBits_55 (lv_at hl 0 rfl) ?_
            refine lv_imul hx hb dX2_tryBits_57 ?_
            refine lv_topi (fun z_6 ez_6 => ?_)
            try have tz_6 : z_6.toInt = (8 : Int) * x.toInt := by rw [ez_6]; exact my_mulI (by decide +kernel) rfl (by omega) (by omega)
            refine lv_lushr hx hb dX2_tryBits_58 rfl ?_
            refine lv_topl (fun z_7 ez_7 => ?_)
            refine lv_ldc2 (v := 255) hx hb hown (hts (.constantLong RX2 70 (255)) (by decide +kernel)) dX2_tryBits_59 ?_
            refine lv_land hx hb dX2_tryBits_62 ?_
            refine lv_topl (fun z_8 ez_8 => ?_)
            refine lv_l2i hx hb dX2_tryBits_63 rfl ?_
            refine lv_topi (fun z_9 ez_9 => ?_)
            refine lv_iadd hx hb dX2_tryBits_64 ?_
            refine lv_topi (fun z_10 ez_10 => ?_)
            try have tz_10 : z_10.toInt = z_5.toInt + z_9.toInt := by rw [ez_10]; exact my_addI rfl rfl (by omega) (by omega)
            refine lv_istore (lv' := [(8, .int z_10), (7, .int x), (6, .int z_4), (4, .long r_1), (0, .ref xr), (1, .int 6), (2, .int o9), (3, .int u9)]) hx hb dX2_tryBits_65 hl (by decide) rfl (fun ls hl => ?_)
            refine lv_iload_n hx hb dX2_tryBits_67 rfl (lv_at hl 6 rfl) ?_
            refine lv_iload hx hb dX2_tryBits_68 (lv_at hl 1 rfl) ?_
            refine lv_ishr hx hb dX2_tryBits_70 ?_
            refine lv_topi (fun z_11 ez_11 => ?_)
            refine lv_iconst (v := 1) hx hb dX2_tryBits_71 (by decide +kernel) ?_
            refine lv_iand hx hb dX2_tryBits_72 ?_
            refine lv_topi (fun z_12 ez_12 => ?_)
            have hbz_12 : 0 ≤ z_12.toInt ∧ z_12.toInt ≤ 1 := by rw [ez_12]; exact my_andR (by decide +kernel) (by decide +kernel)
            refine lv_if_eq (tgt := 111) hx hb dX2_tryBits_73 (by decide) (fun c73 => ?_) (fun c73 => ?_)
            ·
              have d73 : z_12.toInt = (0 : Int) := my_eq c73 rfl (by decide +kernel)
              obtain ⟨z_13, ez_13⟩ : ∃ y : Int32, y = x + (-1) := ⟨_, rfl⟩
              try have tz_13 : z_13.toInt = x.toInt + (-1) := by rw [ez_13]; exact my_addI rfl (by decide +kernel) (by omega) (by omega)
              refine lv_iinc (v := z_13) (lv' := [(7, .int z_13), (8, .int z_10), (6, .int z_4), (4, .long r_1), (0, .ref xr), (1, .int 6), (2, .int o9), (3, .int u9)]) hx hb dX2_tryBits_111 hl (k := 1) rfl (by rw [ez_13]; rfl) (by decide) rfl (fun ls hl => ?_)
              refine lv_goto (tgt := 43) hx hb dX2_tryBits_114 (by decide) ?_
              exact ih43  z_13 xr_size_43 xr_variedCount_43 xr_fewest_43 xr_known_43 r2_43 r3_43 r4_43 w7_43 (by omega) (by first | assumption | omega | decide +kernel) (by first | assumption | omega | decide +kernel) (by first | assumption | omega | decide +kernel) (by first | assumption | omega | decide +kernel) (by first | assumption | omega | decide +kernel) (by first | assumption | omega | decide +kernel) _ _ ls hP hD hS (lv_sub hl [0, 2, 3, 4, 5, 6, 7] rfl)
            ·
              have d73 : z_12.toInt ≠ (0 : Int) := my_ne c73 rfl (by decide +kernel)
              refine lv_iload hx hb dX2_tryBits_76 (lv_at hl 0 rfl) ?_
              refine lv_iload hx hb dX2_tryBits_78 (lv_at hl 2 rfl) ?_
              refine lv_iadd hx hb dX2_tryBits_80 ?_
              refine lv_topi (fun z_14 ez_14 => ?_)
              try have tz_14 : z_14.toInt = z_10.toInt + z_4.toInt := by rw [ez_14]; exact my_addI rfl rfl (by omega) (by omega)
              refine lv_aload_n hx hb dX2_tryBits_81 rfl (lv_at hl 4 rfl) ?_
              refine va_get (ci := 2) (v := .int xr_fewest_43) (C := RX2) (T := TX2) (N := 9) hx hb hts hi2 hown hK hP 0 rfl rfl 7 (by decide) fl37 (fun _ h9 => h9) rfl dX2_tryBits_82 ?_
              refine lv_icmp_ge (tgt := 111) hx hb dX2_tryBits_85 (by decide) (fun c85 => ?_) (fun c85 => ?_)
              ·
                have d85 : z_14.toInt ≥ xr_fewest_43.toInt := my_ge c85 rfl rfl
                obtain ⟨z_15, ez_15⟩ : ∃ y : Int32, y = x + (-1) := ⟨_, rfl⟩
                try have tz_15 : z_15.toInt = x.toInt + (-1) := by rw [ez_15]; exact my_addI rfl (by decide +kernel) (by omega) (by omega)
                refine lv_iinc (v := z_15) (lv' := [(7, .int z_15), (8, .int z_10), (6, .int z_4), (4, .long r_1), (0, .ref xr), (1, .int 6), (2, .int o9), (3, .int u9)]) hx hb dX2_tryBits_111 hl (k := 1) rfl (by rw [ez_15]; rfl) (by decide) rfl (fun ls hl => ?_)
                refine lv_goto (tgt := 43) hx hb dX2_tryBits_114 (by decide) ?_
                exact ih43  z_15 xr_size_43 xr_variedCount_43 xr_fewest_43 xr_known_43 r2_43 r3_43 r4_43 w7_43 (by omega) (by first | assumption | omega | decide +kernel) (by first | assumption | omega | decide +kernel) (by first | assumption | omega | decide +kernel) (by first | assumption | omega | decide +kernel) (by first | assumption | omega | decide +kernel) (by first | assumption | omega | decide +kernel) _ _ ls hP hD hS (lv_sub hl [0, 2, 3, 4, 5, 6, 7] rfl)
              ·
                have d85 : z_14.toInt < xr_fewest_43.toInt := my_nge c85 rfl rfl
                refine lv_aload_n hx hb dX2_tryBits_88 rfl (lv_at hl 4 rfl) ?_
                refine va_get (ci := 2) (v := .ref r3) (C := RX2) (T := TX2) (N := 9) hx hb hts hi2 hown hK hP 0 rfl rfl 2 (by decide) fl20 (fun _ h9 => h9) rfl dX2_tryBits_89 ?_
                refine lv_iload_n hx hb dX2_tryBits_92 rfl (lv_at hl 5 rfl) ?_
                refine lv_iload hx hb dX2_tryBits_93 (lv_at hl 1 rfl) ?_
                refine va_iast hx hb hK hP hD hS 3 0 rfl rfl (vp_in_nI (n := 6) (by omega) (by omega)) dX2_tryBits_95 (fun H locs hP hD hS => ?_)
                obtain ⟨g_16, eg_16⟩ : ∃ g : Nat → Int32, g = upd r3_43 6 x := ⟨_, rfl⟩
                have eU : upd r3_43 (6 : Int32).toNatClampNeg x = g_16 := by rw [eg_16, show (6 : Int32).toNatClampNeg = 6 from by decide +kernel]
                rw [eU] at hP hD
                have hP : va_P D vwCl (wl_k_X2_tryBits_6 cI cJ cK xr r1 r2 r3 r4 r5 w0 w1 w2 w3 w4 w5 w6 w7 (nI xr_size_43) (nI xr_variedCount_43) xr_fewest_43 xr_known_43 r2_43 g_16 r4_43 wf6 w7_43) H := hP
                have hD : va_D A (wl_k_X2_tryBits_6 cI cJ cK xr r1 r2 r3 r4 r5 w0 w1 w2 w3 w4 w5 w6 w7 (nI xr_size_43) (nI xr_variedCount_43) xr_fewest_43 xr_known_43 r2_43 g_16 r4_43 wf6 w7_43) := hD
                refine lv_aload_n hx hb dX2_tryBits_96 rfl (lv_at hl 4 rfl) ?_
                refine lv_iload_n hx hb dX2_tryBits_97 rfl (lv_at hl 5 rfl) ?_
                refine lv_iload_n hx hb dX2_tryBits_98 rfl (lv_at hl 6 rfl) ?_
                refine lv_iconst (v := 1) hx hb dX2_tryBits_99 (by decide +kernel) ?_
                refine lv_iload hx hb dX2_tryBits_100 (lv_at hl 1 rfl) ?_
                refine lv_ishl hx hb dX2_tryBits_102 ?_
                refine lv_topi (fun z_17 ez_17 => ?_)
                refine lv_iconst (v := (-1)) hx hb dX2_tryBits_103 (by decide +kernel) ?_
                refine lv_ixor hx hb dX2_tryBits_104 ?_
                refine lv_topi (fun z_18 ez_18 => ?_)
                refine lv_iand hx hb dX2_tryBits_105 ?_
                refine lv_topi (fun z_19 ez_19 => ?_)
                refine lv_iload hx hb dX2_tryBits_106 (lv_at hl 0 rfl) ?_
                refine my_goVS (wc := (wl_k_X2_takeBit_6 cI cJ cK xr r1 r2 r3 r4 r5 w0 w1 w2 w3 w4 w5 w6 w7 (nI xr_size_43) (nI xr_variedCount_43) xr_fewest_43 xr_known_43 r2_43 g_16 r4_43 wf6 w7_43)) hP hD hS hA [0, 1, 2, 3, 4, 5, 6] rfl [some 0, some 1, some 2, some 3, some 4, some 5, some 6] (by decide +kernel) (my_cV (As := [.int 6, .int z_19, .int z_10]) (rest := []) (ci := 2) (wc := (wl_k_X2_takeBit_6 cI cJ cK xr r1 r2 r3 r4 r5 w0 w1 w2 w3 w4 w5 w6 w7 (nI xr_size_43) (nI xr_variedCount_43) xr_fewest_43 xr_known_43 r2_43 g_16 r4_43 wf6 w7_43)) ⟨hx, hb, hml, hown, hts⟩ (cwV 3 hts gX2_tryBits_X2_takeBit rfl rfl rfl (by decide +kernel) ⟨Nat.le_of_ble_eq_true rfl, Nat.le_of_ble_eq_true rfl⟩) hN hK hP hD [0, 1, 2, 3, 4, 5, 6] rfl (by decide) rfl 0 rfl rfl rfl rfl hl.1 rfl (Nat.le_of_ble_eq_true rfl) dX2_tryBits_108 ⟨Nat.le_of_ble_eq_true rfl, Nat.le_of_ble_eq_true rfl⟩  ((k_X2_takeBit_6 l D cI cJ cK xr r1 r2 r3 r4 r5 w0 w1 w2 w3 w4 w5 w6 w7 xr_size_43 xr_variedCount_43 xr_fewest_43 xr_known_43 r2_43 g_16 r4_43 wf6 w7_43 z_19 z_10 (by first | assumption | omega | decide +kernel) (by first | assumption | omega | decide +kernel)) _)) (fun u H locs hp hPD hS => ?_)
                obtain ⟨rz_20, rv_21, rw_22, rk_23, ro_24, rt_25, rb_26, wf7_27, rfl, hhz_rz_28, hhz_rv_29, hv_30, hz_31⟩ := hp
                obtain ⟨hP, hD⟩ := hPD rfl
                have hP : va_P D vwCl (wl_k_X2_tryBits_6 cI cJ cK xr r1 r2 r3 r4 r5 w0 w1 w2 w3 w4 w5 w6 w7 (nI rz_20) (nI rv_21) rw_22 rk_23 ro_24 rt_25 rb_26 wf6 wf7_27) H := hP
                have hD : va_D A (wl_k_X2_tryBits_6 cI cJ cK xr r1 r2 r3 r4 r5 w0 w1 w2 w3 w4 w5 w6 w7 (nI rz_20) (nI rv_21) rw_22 rk_23 ro_24 rt_25 rb_26 wf6 wf7_27) := hD
                obtain ⟨z_32, ez_32⟩ : ∃ y : Int32, y = x + (-1) := ⟨_, rfl⟩
                try have tz_32 : z_32.toInt = x.toInt + (-1) := by rw [ez_32]; exact my_addI rfl (by decide +kernel) (by omega) (by omega)
                refine lv_iinc (v := z_32) (lv' := [(7, .int z_32), (8, .int z_10), (6, .int z_4), (4, .long r_1), (0, .ref xr), (1, .int 6), (2, .int o9), (3, .int u9)]) hx hb dX2_tryBits_111 hl (k := 1) rfl (by rw [ez_32]; rfl) (by decide) rfl (fun ls hl => ?_)
                refine lv_goto (tgt := 43) hx hb dX2_tryBits_114 (by decide) ?_
                exact ih43  z_32 rz_20 rv_21 rw_22 rk_23 ro_24 rt_25 rb_26 wf7_27 (by omega) (by first | assumption | omega | decide +kernel) (by first | assumption | omega | decide +kernel) (by first | assumption | omega | decide +kernel) (by first | assumption | omega | decide +kernel) (by first | assumption | omega | decide +kernel) (by first | assumption | omega | decide +kernel) _ _ ls hP hD hS (lv_sub hl [0, 2, 3, 4, 5, 6, 7] rfl)
      have ec_33 : (7 : Int32).toInt = 7 := by decide +kernel
      exact loop43 ((((7 : Int32).toInt + 1).toNat) + 1) (7 : Int32) rz rv rw rk ro rt rb wf7 (Nat.lt_succ_self _) (by first | assumption | omega | decide +kernel) (by first | assumption | omega | decide +kernel) (by first | assumption | omega | decide +kernel) (by first | assumption | omega | decide +kernel) (by first | assumption | omega | decide +kernel) (by first | assumption | omega | decide +kernel) _ _ ls hP hD hS (lv_sub hl [0, 1, 2, 3, 4, 5, 6] rfl)
    ·
      exact absurd c11 (by decide +kernel)
abbrev wl_k_X2_takeBit_5 (cI cJ cK : ClassId) (xr : Nat) (r1 : Nat) (r2 : Nat) (r3 : Nat) (r4 : Nat) (r5 : Nat) (w0 : Nat) (w1 : Nat) (w2 : Nat) (w3 : Nat) (w4 : Nat) (w5 : Nat) (w6 : Nat) (w7 : Nat) (v0_ : Int32) (v1_ : Int32) (v2_ : Int32) (v3_ : Int32) (v4_ : Nat → Int64) (v5_ : Nat → Int32) (v6_ : Nat → Int32) (v7_ : Nat → Int64) (v8_ : Nat → Int64) (v9_ : Nat → Int64) : va_W := [(xr, .inr (2, [.ref r1, .ref r2, .ref r3, .ref r4, .ref r5, .int v0_, .int v1_, .int v2_, .int v3_])), (r1, .inl (cK, 8, .inr (.inr (.inr (.inr (fun j => ([w0, w1, w2, w3, w4, w5, w6, w7] : List Nat)[j]?)))))), (r2, .inl (cJ, 64, .inr (.inl v4_))), (r3, .inl (cI, 8, .inl v5_)), (r4, .inl (cI, 8, .inl v6_)), (w5, .inl (cJ, 64, .inr (.inl v7_))), (w6, .inl (cJ, 64, .inr (.inl v8_))), (w7, .inl (cJ, 64, .inr (.inl v9_)))]
set_option maxHeartbeats 4000000 in
set_option maxRecDepth 100000 in
theorem k_X2_takeBit_5 (l : Launch) (D : va_G) (cI cJ cK : ClassId) (xr : Nat) (r1 : Nat) (r2 : Nat) (r3 : Nat) (r4 : Nat) (r5 : Nat) (w0 : Nat) (w1 : Nat) (w2 : Nat) (w3 : Nat) (w4 : Nat) (w5 : Nat) (w6 : Nat) (w7 : Nat) (rz : Nat) (rv : Nat) (rw : Int32) (rk : Int32) (ro : Nat → Int64) (rt : Nat → Int32) (rb : Nat → Int32) (wf5 : Nat → Int64) (wf6 : Nat → Int64) (wf7 : Nat → Int64) (o9 : Int32) (u9 : Int32) (hz_rz : rz ≤ 64) (hz_rv : rv ≤ 8) : ctV l yX2_takeBit wsX2_takeBit ({ frames := 6, cells := 0, slots := 0, locals := 360 } : Room) D (tyIJ cI cJ cK) [.ref xr, .int 5, .int o9, .int u9] (wl_k_X2_takeBit_5 cI cJ cK xr r1 r2 r3 r4 r5 w0 w1 w2 w3 w4 w5 w6 w7 (nI rz) (nI rv) rw rk ro rt rb wf5 wf6 wf7) (fun (u : va_W) => ∃ (rz' : Nat) (rv' : Nat) (rw' : Int32) (rk' : Int32) (ro' : Nat → Int64) (rt' : Nat → Int32) (rb' : Nat → Int32) (wf6' : Nat → Int64) (wf7' : Nat → Int64), u = (wl_k_X2_takeBit_5 cI cJ cK xr r1 r2 r3 r4 r5 w0 w1 w2 w3 w4 w5 w6 w7 (nI rz') (nI rv') rw' rk' ro' rt' rb' wf5 wf6' wf7') ∧ rz' ≤ 64 ∧ rv' ≤ 8 ∧ rv' = rv ∧ rz' = rz) := by
  refine ctV.of (cc := cX2_takeBit) (maxL := 4) (ret := none) (by decide) rfl (Nat.le_of_ble_eq_true rfl) ?_
  intro p e s m below meth c ls A hx hb hr hts hown hml hlocks hname hA hK hN hP hD hS hl
  have hl : lv_has ls 4 [(0, .ref xr), (1, .int 5), (2, .int o9), (3, .int u9)] := hl
  have hown : s.vm.findClass RX2 = some m.cls := hown
  have hi2 : ∀ w ∈ u_ws RX2 TX2 9, w ∈ wsX2_takeBit := by decide +kernel
  have fl11 := hts (.fieldLink RX2 11 "PlaneColumn$OrderSearch" "lines" "[[J") (by decide +kernel)
  have fl20 := hts (.fieldLink RX2 20 "PlaneColumn$OrderSearch" "tried" "[I") (by decide +kernel)
  have fl24 := hts (.fieldLink RX2 24 "PlaneColumn$OrderSearch" "best" "[I") (by decide +kernel)
  have fl34 := hts (.fieldLink RX2 34 "PlaneColumn$OrderSearch" "variedCount" "I") (by decide +kernel)
  have fl37 := hts (.fieldLink RX2 37 "PlaneColumn$OrderSearch" "fewest" "I") (by decide +kernel)
  refine lv_iload_n hx hb dX2_takeBit_0 rfl (lv_at hl 2 rfl) ?_
  refine lv_if_ne (tgt := 29) hx hb dX2_takeBit_1 (by decide) (fun c1 => ?_) (fun c1 => ?_)
  ·
    have d1 : o9.toInt ≠ (0 : Int) := my_ne c1 rfl (by decide +kernel)
    refine lv_iload_n hx hb dX2_takeBit_29 rfl (lv_at hl 1 rfl) ?_
    refine lv_iconst (v := 1) hx hb dX2_takeBit_30 (by decide +kernel) ?_
    refine lv_iadd hx hb dX2_takeBit_31 ?_
    refine my_eqi (y := 6) (by decide +kernel) ?_
    refine lv_bipush (v := 8) hx hb dX2_takeBit_32 (by decide +kernel) ?_
    refine lv_icmp_ge (tgt := 70) hx hb dX2_takeBit_34 (by decide) (fun c34 => ?_) (fun c34 => ?_)
    ·
      exact absurd c34 (by decide +kernel)
    ·
      refine lv_aload_n hx hb dX2_takeBit_37 rfl (lv_at hl 0 rfl) ?_
      refine lv_aload_n hx hb dX2_takeBit_38 rfl (lv_at hl 0 rfl) ?_
      refine va_get (ci := 2) (v := .ref r1) (C := RX2) (T := TX2) (N := 9) hx hb hts hi2 hown hK hP 0 rfl rfl 0 (by decide) fl11 (fun _ h9 => h9) rfl dX2_takeBit_39 ?_
      refine lv_iload_n hx hb dX2_takeBit_42 rfl (lv_at hl 1 rfl) ?_
      refine my_aald hx hb hK hP 1 rfl (vp_in_nI (n := 5) (by omega) (by omega)) dX2_takeBit_43 ?_
      refine my_eqa (y := .ref w5) (by rw [show (5 : Int32).toNatClampNeg = 5 by decide +kernel]; rfl) ?_
      refine lv_aload_n hx hb dX2_takeBit_44 rfl (lv_at hl 0 rfl) ?_
      refine va_get (ci := 2) (v := .ref r1) (C := RX2) (T := TX2) (N := 9) hx hb hts hi2 hown hK hP 0 rfl rfl 0 (by decide) fl11 (fun _ h9 => h9) rfl dX2_takeBit_45 ?_
      refine lv_iload_n hx hb dX2_takeBit_48 rfl (lv_at hl 1 rfl) ?_
      refine lv_iconst (v := 1) hx hb dX2_takeBit_49 (by decide +kernel) ?_
      refine lv_iadd hx hb dX2_takeBit_50 ?_
      refine my_eqi (y := 6) (by decide +kernel) ?_
      refine my_aald hx hb hK hP 1 rfl (vp_in_nI (n := 6) (by omega) (by omega)) dX2_takeBit_51 ?_
      refine my_eqa (y := .ref w6) (by rw [show (6 : Int32).toNatClampNeg = 6 by decide +kernel]; rfl) ?_
      refine lv_aload_n hx hb dX2_takeBit_52 rfl (lv_at hl 0 rfl) ?_
      refine va_get (ci := 2) (v := .ref r3) (C := RX2) (T := TX2) (N := 9) hx hb hts hi2 hown hK hP 0 rfl rfl 2 (by decide) fl20 (fun _ h9 => h9) rfl dX2_takeBit_53 ?_
      refine lv_iload_n hx hb dX2_takeBit_56 rfl (lv_at hl 1 rfl) ?_
      refine va_iald hx hb hK hP 3 0 rfl rfl (vp_in_nI (n := 5) (by omega) (by omega)) dX2_takeBit_57 ?_
      refine my_eqi (y := rt 5) (congrArg rt (show (5 : Int32).toNatClampNeg = 5 by decide +kernel)) ?_
      refine my_goVS (wc := (wl_k_X2_part cI cJ cK xr r1 r2 r3 r4 r5 w5 w6 (nI rz) (nI rv) rw rk ro wf5 wf6)) hP hD hS hA [0, 2, 5, 6] rfl [some 0, none, some 1, none, none, some 2, some 3] (by decide +kernel) (my_cV (As := [.ref w5, .ref w6, .int (rt 5)]) (rest := []) (ci := 2) (wc := (wl_k_X2_part cI cJ cK xr r1 r2 r3 r4 r5 w5 w6 (nI rz) (nI rv) rw rk ro wf5 wf6)) ⟨hx, hb, hml, hown, hts⟩ (cwV 3 hts gX2_takeBit_X2_part rfl rfl rfl (by decide +kernel) ⟨Nat.le_of_ble_eq_true rfl, Nat.le_of_ble_eq_true rfl⟩) hN hK hP hD [0, 2, 5, 6] rfl (by decide) rfl 0 rfl rfl rfl rfl hl.1 rfl (Nat.le_of_ble_eq_true rfl) dX2_takeBit_58 ⟨Nat.le_of_ble_eq_true rfl, Nat.le_of_ble_eq_true rfl⟩  ((k_X2_part l D cI cJ cK xr r1 r2 r3 r4 r5 w5 w6 rz rv rw rk ro wf5 wf6 (rt 5) (by first | assumption | omega | decide +kernel) (by first | assumption | omega | decide +kernel)) _)) (fun u H locs hp hPD hS => ?_)
      obtain ⟨ro_2, wfb_3, rfl⟩ := hp
      obtain ⟨hP, hD⟩ := hPD rfl
      have hP : va_P D vwCl (wl_k_X2_takeBit_5 cI cJ cK xr r1 r2 r3 r4 r5 w0 w1 w2 w3 w4 w5 w6 w7 (nI rz) (nI rv) rw rk ro_2 rt rb wf5 wfb_3 wf7) H := hP
      have hD : va_D A (wl_k_X2_takeBit_5 cI cJ cK xr r1 r2 r3 r4 r5 w0 w1 w2 w3 w4 w5 w6 w7 (nI rz) (nI rv) rw rk ro_2 rt rb wf5 wfb_3 wf7) := hD
      refine lv_aload_n hx hb dX2_takeBit_61 rfl (lv_at hl 0 rfl) ?_
      refine lv_iload_n hx hb dX2_takeBit_62 rfl (lv_at hl 1 rfl) ?_
      refine lv_iconst (v := 1) hx hb dX2_takeBit_63 (by decide +kernel) ?_
      refine lv_iadd hx hb dX2_takeBit_64 ?_
      refine my_eqi (y := 6) (by decide +kernel) ?_
      refine lv_iload_n hx hb dX2_takeBit_65 rfl (lv_at hl 2 rfl) ?_
      refine lv_iload_n hx hb dX2_takeBit_66 rfl (lv_at hl 3 rfl) ?_
      refine my_goVS (wc := (wl_k_X2_tryBits_6 cI cJ cK xr r1 r2 r3 r4 r5 w0 w1 w2 w3 w4 w5 w6 w7 (nI rz) (nI rv) rw rk ro_2 rt rb wfb_3 wf7)) hP hD hS hA [0, 1, 2, 3, 4, 6, 7] rfl [some 0, some 1, some 2, some 3, some 4, none, some 5, some 6] (by decide +kernel) (my_cV (As := [.int 6, .int o9, .int u9]) (rest := []) (ci := 2) (wc := (wl_k_X2_tryBits_6 cI cJ cK xr r1 r2 r3 r4 r5 w0 w1 w2 w3 w4 w5 w6 w7 (nI rz) (nI rv) rw rk ro_2 rt rb wfb_3 wf7)) ⟨hx, hb, hml, hown, hts⟩ (cwV 3 hts gX2_takeBit_X2_tryBits rfl rfl rfl (by decide +kernel) ⟨Nat.le_of_ble_eq_true rfl, Nat.le_of_ble_eq_true rfl⟩) hN hK hP hD [0, 1, 2, 3, 4, 6, 7] rfl (by decide) rfl 0 rfl rfl rfl rfl hl.1 rfl (Nat.le_of_ble_eq_true rfl) dX2_takeBit_67 ⟨Nat.le_of_ble_eq_true rfl, Nat.le_of_ble_eq_true rfl⟩  ((k_X2_tryBits_6 l D cI cJ cK xr r1 r2 r3 r4 r5 w0 w1 w2 w3 w4 w5 w6 w7 rz rv rw rk ro_2 rt rb wfb_3 wf7 o9 u9 (by first | assumption | omega | decide +kernel) (by first | assumption | omega | decide +kernel)) _)) (fun u H locs hp hPD hS => ?_)
      obtain ⟨rz_4, rv_5, rw_6, rk_7, ro_8, rt_9, rb_10, wf7_11, rfl, hhz_rz_12, hhz_rv_13, hv_14, hz_15⟩ := hp
      obtain ⟨hP, hD⟩ := hPD rfl
      have hP : va_P D vwCl (wl_k_X2_takeBit_5 cI cJ cK xr r1 r2 r3 r4 r5 w0 w1 w2 w3 w4 w5 w6 w7 (nI rz_4) (nI rv_5) rw_6 rk_7 ro_8 rt_9 rb_10 wf5 wfb_3 wf7_11) H := hP
      have hD : va_D A (wl_k_X2_takeBit_5 cI cJ cK xr r1 r2 r3 r4 r5 w0 w1 w2 w3 w4 w5 w6 w7 (nI rz_4) (nI rv_5) rw_6 rk_7 ro_8 rt_9 rb_10 wf5 wfb_3 wf7_11) := hD
      exact my_retV hx hb hr hlocks hK hS (wl_k_X2_takeBit_5 cI cJ cK xr r1 r2 r3 r4 r5 w0 w1 w2 w3 w4 w5 w6 w7 (nI rz_4) (nI rv_5) rw_6 rk_7 ro_8 rt_9 rb_10 wf5 wfb_3 wf7_11) hP hD (⟨rz_4, rv_5, rw_6, rk_7, ro_8, rt_9, rb_10, wfb_3, wf7_11, rfl, (by first | assumption | omega | trivial | decide +kernel), (by first | assumption | omega | trivial | decide +kernel), (by first | assumption | omega | trivial | decide +kernel), (by first | assumption | omega | trivial | decide +kernel)⟩) dX2_takeBit_70
  ·
    have d1 : o9.toInt = (0 : Int) := my_eq c1 rfl (by decide +kernel)
    refine lv_aload_n hx hb dX2_takeBit_4 rfl (lv_at hl 0 rfl) ?_
    refine lv_iload_n hx hb dX2_takeBit_5 rfl (lv_at hl 3 rfl) ?_
    refine va_put (ci := 2) (v := .int u9) (ty := (.int)) (C := RX2) (T := TX2) (N := 9) hx hb hts hi2 tyX2 tyX2_ok nmX2 hown hK hP hD hS 0 rfl rfl 7 (by decide) fl37 (fun _ h9 => h9) rfl (by decide +kernel) rfl rfl (Nat.le_of_ble_eq_true rfl) dX2_takeBit_6 (fun H locs hP hD hS => ?_)
    have hP : va_P D vwCl (wl_k_X2_takeBit_5 cI cJ cK xr r1 r2 r3 r4 r5 w0 w1 w2 w3 w4 w5 w6 w7 (nI rz) (nI rv) u9 rk ro rt rb wf5 wf6 wf7) H := hP
    have hD : va_D A (wl_k_X2_takeBit_5 cI cJ cK xr r1 r2 r3 r4 r5 w0 w1 w2 w3 w4 w5 w6 w7 (nI rz) (nI rv) u9 rk ro rt rb wf5 wf6 wf7) := hD
    refine lv_aload_n hx hb dX2_takeBit_9 rfl (lv_at hl 0 rfl) ?_
    refine va_get (ci := 2) (v := .ref r3) (C := RX2) (T := TX2) (N := 9) hx hb hts hi2 hown hK hP 0 rfl rfl 2 (by decide) fl20 (fun _ h9 => h9) rfl dX2_takeBit_10 ?_
    refine lv_iconst (v := 0) hx hb dX2_takeBit_13 (by decide +kernel) ?_
    refine lv_aload_n hx hb dX2_takeBit_14 rfl (lv_at hl 0 rfl) ?_
    refine va_get (ci := 2) (v := .ref r4) (C := RX2) (T := TX2) (N := 9) hx hb hts hi2 hown hK hP 0 rfl rfl 3 (by decide) fl24 (fun _ h9 => h9) rfl dX2_takeBit_15 ?_
    refine lv_iconst (v := 0) hx hb dX2_takeBit_18 (by decide +kernel) ?_
    refine lv_aload_n hx hb dX2_takeBit_19 rfl (lv_at hl 0 rfl) ?_
    refine va_get (ci := 2) (v := .int (nI rv)) (C := RX2) (T := TX2) (N := 9) hx hb hts hi2 hown hK hP 0 rfl rfl 6 (by decide) fl34 (fun _ h9 => h9) rfl dX2_takeBit_20 ?_
    refine va_copyi hx hb (hml.trans hl.1.symm) hown (hts (.methodLink RX2 75 arraycopyName) (by decide +kernel)) (hts (.native arraycopyName) (by decide +kernel)) (hts (.static arraycopyName) (by decide +kernel)) (hts (.initialized "java/lang/System") (by decide +kernel)) hK hP hD hS 3 4 0 0 rfl rfl rfl rfl rfl (by decide +kernel) (by decide +kernel) (nI_nneg (by omega)) (by rw [show (0 : Int32).toNatClampNeg = 0 from (by decide +kernel), show (nI rv : Int32).toNatClampNeg = rv from (nI_clamp (by omega))]; omega) (by rw [show (0 : Int32).toNatClampNeg = 0 from (by decide +kernel), show (nI rv : Int32).toNatClampNeg = rv from (nI_clamp (by omega))]; omega) (fun _ _ => rfl) (Nat.le_of_ble_eq_true rfl) (Nat.le_of_ble_eq_true rfl) dX2_takeBit_23 (fun H locs hP hD hS => ?_)
    obtain ⟨g_16, eg_16⟩ : ∃ g : Nat → Int32, g = va_cpy rt rb 0 0 rv := ⟨_, rfl⟩
    have eU : va_cpy rt rb (0 : Int32).toNatClampNeg (0 : Int32).toNatClampNeg (nI rv : Int32).toNatClampNeg = g_16 := by rw [eg_16, show (0 : Int32).toNatClampNeg = 0 from (by decide +kernel), show (nI rv : Int32).toNatClampNeg = rv from (nI_clamp (by omega))]
    rw [eU] at hP hD
    have hP : va_P D vwCl (wl_k_X2_takeBit_5 cI cJ cK xr r1 r2 r3 r4 r5 w0 w1 w2 w3 w4 w5 w6 w7 (nI rz) (nI rv) u9 rk ro rt g_16 wf5 wf6 wf7) H := hP
    have hD : va_D A (wl_k_X2_takeBit_5 cI cJ cK xr r1 r2 r3 r4 r5 w0 w1 w2 w3 w4 w5 w6 w7 (nI rz) (nI rv) u9 rk ro rt g_16 wf5 wf6 wf7) := hD
    refine lv_goto (tgt := 70) hx hb dX2_takeBit_26 (by decide) ?_
    exact my_retV hx hb hr hlocks hK hS (wl_k_X2_takeBit_5 cI cJ cK xr r1 r2 r3 r4 r5 w0 w1 w2 w3 w4 w5 w6 w7 (nI rz) (nI rv) u9 rk ro rt g_16 wf5 wf6 wf7) hP hD (⟨rz, rv, u9, rk, ro, rt, g_16, wf6, wf7, rfl, (by first | assumption | omega | trivial | decide +kernel), (by first | assumption | omega | trivial | decide +kernel), (by first | assumption | omega | trivial | decide +kernel), (by first | assumption | omega | trivial | decide +kernel)⟩) dX2_takeBit_70
abbrev wl_k_X2_tryBits_5 (cI cJ cK : ClassId) (xr : Nat) (r1 : Nat) (r2 : Nat) (r3 : Nat) (r4 : Nat) (r5 : Nat) (w0 : Nat) (w1 : Nat) (w2 : Nat) (w3 : Nat) (w4 : Nat) (w5 : Nat) (w6 : Nat) (w7 : Nat) (v0_ : Int32) (v1_ : Int32) (v2_ : Int32) (v3_ : Int32) (v4_ : Nat → Int64) (v5_ : Nat → Int32) (v6_ : Nat → Int32) (v7_ : Nat → Int64) (v8_ : Nat → Int64) (v9_ : Nat → Int64) : va_W := [(xr, .inr (2, [.ref r1, .ref r2, .ref r3, .ref r4, .ref r5, .int v0_, .int v1_, .int v2_, .int v3_])), (r1, .inl (cK, 8, .inr (.inr (.inr (.inr (fun j => ([w0, w1, w2, w3, w4, w5, w6, w7] : List Nat)[j]?)))))), (r2, .inl (cJ, 64, .inr (.inl v4_))), (r3, .inl (cI, 8, .inl v5_)), (r4, .inl (cI, 8, .inl v6_)), (w5, .inl (cJ, 64, .inr (.inl v7_))), (w6, .inl (cJ, 64, .inr (.inl v8_))), (w7, .inl (cJ, 64, .inr (.inl v9_)))]
set_option maxHeartbeats 4000000 in
set_option maxRecDepth 100000 in
theorem k_X2_tryBits_5 (l : Launch) (D : va_G) (cI cJ cK : ClassId) (xr : Nat) (r1 : Nat) (r2 : Nat) (r3 : Nat) (r4 : Nat) (r5 : Nat) (w0 : Nat) (w1 : Nat) (w2 : Nat) (w3 : Nat) (w4 : Nat) (w5 : Nat) (w6 : Nat) (w7 : Nat) (rz : Nat) (rv : Nat) (rw : Int32) (rk : Int32) (ro : Nat → Int64) (rt : Nat → Int32) (rb : Nat → Int32) (wf5 : Nat → Int64) (wf6 : Nat → Int64) (wf7 : Nat → Int64) (o9 : Int32) (u9 : Int32) (hz_rz : rz ≤ 64) (hz_rv : rv ≤ 8) : ctV l yX2_tryBits wsX2_tryBits ({ frames := 7, cells := 0, slots := 0, locals := 420 } : Room) D (tyIJ cI cJ cK) [.ref xr, .int 5, .int o9, .int u9] (wl_k_X2_tryBits_5 cI cJ cK xr r1 r2 r3 r4 r5 w0 w1 w2 w3 w4 w5 w6 w7 (nI rz) (nI rv) rw rk ro rt rb wf5 wf6 wf7) (fun (u : va_W) => ∃ (rz' : Nat) (rv' : Nat) (rw' : Int32) (rk' : Int32) (ro' : Nat → Int64) (rt' : Nat → Int32) (rb' : Nat → Int32) (wf6' : Nat → Int64) (wf7' : Nat → Int64), u = (wl_k_X2_tryBits_5 cI cJ cK xr r1 r2 r3 r4 r5 w0 w1 w2 w3 w4 w5 w6 w7 (nI rz') (nI rv') rw' rk' ro' rt' rb' wf5 wf6' wf7') ∧ rz' ≤ 64 ∧ rv' ≤ 8 ∧ rv' = rv ∧ rz' = rz) := by
  refine ctV.of (cc := cX2_tryBits) (maxL := 9) (ret := none) (by decide) rfl (Nat.le_of_ble_eq_true rfl) ?_
  intro p e s m below meth c ls A hx hb hr hts hown hml hlocks hname hA hK hN hP hD hS hl
  have hl : lv_has ls 9 [(0, .ref xr), (1, .int 5), (2, .int o9), (3, .int u9)] := hl
  have hown : s.vm.findClass RX2 = some m.cls := hown
  have hi2 : ∀ w ∈ u_ws RX2 TX2 9, w ∈ wsX2_tryBits := by decide +kernel
  have fl11 := hts (.fieldLink RX2 11 "PlaneColumn$OrderSearch" "lines" "[[J") (by decide +kernel)
  have fl20 := hts (.fieldLink RX2 20 "PlaneColumn$OrderSearch" "tried" "[I") (by decide +kernel)
  have fl34 := hts (.fieldLink RX2 34 "PlaneColumn$OrderSearch" "variedCount" "I") (by decide +kernel)
  have fl37 := hts (.fieldLink RX2 37 "PlaneColumn$OrderSearch" "fewest" "I") (by decide +kernel)
  refine lv_iload_n hx hb dX2_tryBits_0 rfl (lv_at hl 1 rfl) ?_
  refine lv_aload_n hx hb dX2_tryBits_1 rfl (lv_at hl 0 rfl) ?_
  refine va_get (ci := 2) (v := .int (nI rv)) (C := RX2) (T := TX2) (N := 9) hx hb hts hi2 hown hK hP 0 rfl rfl 6 (by decide) fl34 (fun _ h9 => h9) rfl dX2_tryBits_2 ?_
  refine lv_icmp_ge (tgt := 14) hx hb dX2_tryBits_5 (by decide) (fun c5 => ?_) (fun c5 => ?_)
  ·
    have d5 : (5 : Int) ≥ ((rv : Nat) : Int) := my_ge c5 (by decide +kernel) (nI_toInt (by omega))
    exact my_retV hx hb hr hlocks hK hS (wl_k_X2_tryBits_5 cI cJ cK xr r1 r2 r3 r4 r5 w0 w1 w2 w3 w4 w5 w6 w7 (nI rz) (nI rv) rw rk ro rt rb wf5 wf6 wf7) hP hD (⟨rz, rv, rw, rk, ro, rt, rb, wf6, wf7, rfl, (by first | assumption | omega | trivial | decide +kernel), (by first | assumption | omega | trivial | decide +kernel), (by first | assumption | omega | trivial | decide +kernel), (by first | assumption | omega | trivial | decide +kernel)⟩) dX2_tryBits_14
  ·
    have d5 : (5 : Int) < ((rv : Nat) : Int) := my_nge c5 (by decide +kernel) (nI_toInt (by omega))
    refine lv_iload_n hx hb dX2_tryBits_8 rfl (lv_at hl 1 rfl) ?_
    refine lv_bipush (v := 8) hx hb dX2_tryBits_9 (by decide +kernel) ?_
    refine lv_icmp_lt (tgt := 15) hx hb dX2_tryBits_11 (by decide) (fun c11 => ?_) (fun c11 => ?_)
    ·
      refine lv_aload_n hx hb dX2_tryBits_15 rfl (lv_at hl 0 rfl) ?_
      refine lv_aload_n hx hb dX2_tryBits_16 rfl (lv_at hl 0 rfl) ?_
      refine va_get (ci := 2) (v := .ref r1) (C := RX2) (T := TX2) (N := 9) hx hb hts hi2 hown hK hP 0 rfl rfl 0 (by decide) fl11 (fun _ h9 => h9) rfl dX2_tryBits_17 ?_
      refine lv_iload_n hx hb dX2_tryBits_20 rfl (lv_at hl 1 rfl) ?_
      refine my_aald hx hb hK hP 1 rfl (vp_in_nI (n := 5) (by omega) (by omega)) dX2_tryBits_21 ?_
      refine my_eqa (y := .ref w5) (by rw [show (5 : Int32).toNatClampNeg = 5 by decide +kernel]; rfl) ?_
      refine my_gpL (my_pV (As := [.ref w5]) (rest := []) (ci := 2) ⟨hx, hb, hml, hown, hts⟩ (cwV 1 hts gX2_tryBits_X2_changesOf rfl rfl rfl (by decide +kernel) ⟨Nat.le_of_ble_eq_true rfl, Nat.le_of_ble_eq_true rfl⟩) hN hK hP [0, 5] rfl 0 rfl rfl rfl rfl hl.1 rfl (Nat.le_of_ble_eq_true rfl) dX2_tryBits_22 ⟨Nat.le_of_ble_eq_true rfl, Nat.le_of_ble_eq_true rfl⟩  (k_X2_changesOf l D cI cJ cK xr r1 r2 r3 r4 r5 w5 rz rv rw rk wf5 (by first | assumption | omega | decide +kernel) (by first | assumption | omega | decide +kernel))) (fun r hp => ?_)
      obtain _ := hp
      obtain ⟨r_1, rfl⟩ : ∃ z, z = r := ⟨_, rfl⟩
      refine lv_lstore (lv' := [(4, .long r_1), (0, .ref xr), (1, .int 5), (2, .int o9), (3, .int u9)]) hx hb dX2_tryBits_25 hl (by decide) rfl (fun ls hl => ?_)
      refine lv_iconst (v := 2) hx hb dX2_tryBits_27 (by decide +kernel) ?_
      refine lv_aload_n hx hb dX2_tryBits_28 rfl (lv_at hl 1 rfl) ?_
      refine va_get (ci := 2) (v := .int (nI rv)) (C := RX2) (T := TX2) (N := 9) hx hb hts hi2 hown hK hP 0 rfl rfl 6 (by decide) fl34 (fun _ h9 => h9) rfl dX2_tryBits_29 ?_
      refine lv_iconst (v := 1) hx hb dX2_tryBits_32 (by decide +kernel) ?_
      refine lv_isub hx hb dX2_tryBits_33 ?_
      refine lv_topi (fun z_2 ez_2 => ?_)
      try have tz_2 : z_2.toInt = ((rv : Nat) : Int) - (1 : Int) := by rw [ez_2]; exact my_subI (nI_toInt (by omega)) (by decide +kernel) (by omega) (by omega)
      refine lv_iload_n hx hb dX2_tryBits_34 rfl (lv_at hl 2 rfl) ?_
      refine lv_isub hx hb dX2_tryBits_35 ?_
      refine lv_topi (fun z_3 ez_3 => ?_)
      try have tz_3 : z_3.toInt = z_2.toInt - (5 : Int) := by rw [ez_3]; exact my_subI rfl (by decide +kernel) (by omega) (by omega)
      refine lv_imul hx hb dX2_tryBits_36 ?_
      refine lv_topi (fun z_4 ez_4 => ?_)
      try have tz_4 : z_4.toInt = (2 : Int) * z_3.toInt := by rw [ez_4]; exact my_mulI (by decide +kernel) rfl (by omega) (by omega)
      refine lv_istore (lv' := [(6, .int z_4), (4, .long r_1), (0, .ref xr), (1, .int 5), (2, .int o9), (3, .int u9)]) hx hb dX2_tryBits_37 hl (by decide) rfl (fun ls hl => ?_)
      refine lv_bipush (v := 7) hx hb dX2_tryBits_39 (by decide +kernel) ?_
      refine lv_istore (lv' := [(7, .int 7), (6, .int z_4), (4, .long r_1), (0, .ref xr), (1, .int 5), (2, .int o9), (3, .int u9)]) hx hb dX2_tryBits_41 hl (by decide) rfl (fun ls hl => ?_)
      have loop43 : ∀ (n9 : Nat) (x : Int32) (xr_size_43 : Nat) (xr_variedCount_43 : Nat) (xr_fewest_43 : Int32) (xr_known_43 : Int32) (r2_43 : Nat → Int64) (r3_43 : Nat → Int32) (r4_43 : Nat → Int32) (w6_43 : Nat → Int64) (w7_43 : Nat → Int64), (x.toInt + 1).toNat < n9 → (-1 ≤ x.toInt) → (x.toInt ≤ 7) → (xr_variedCount_43 = rv) → (xr_size_43 = rz) → (xr_size_43 ≤ 64) → (xr_variedCount_43 ≤ 8) → ∀ (H : Heap) (locs : List Loc) (ls : Array Slot), va_P D vwCl (wl_k_X2_tryBits_5 cI cJ cK xr r1 r2 r3 r4 r5 w0 w1 w2 w3 w4 w5 w6 w7 (nI xr_size_43) (nI xr_variedCount_43) xr_fewest_43 xr_known_43 r2_43 r3_43 r4_43 wf5 w6_43 w7_43) H → va_D A (wl_k_X2_tryBits_5 cI cJ cK xr r1 r2 r3 r4 r5 w0 w1 w2 w3 w4 w5 w6 w7 (nI xr_size_43) (nI xr_variedCount_43) xr_fewest_43 xr_known_43 r2_43 r3_43 r4_43 wf5 w6_43 w7_43) → va_S A s.heap H locs → lv_has ls 9 [(7, .int x), (6, .int z_4), (4, .long r_1), (0, .ref xr), (1, .int 5), (2, .int o9), (3, .int u9)] → W p l e ({ frames := 7, cells := 0, slots := 0, locals := 420 } : Room) s m [.ref xr, .int 5, .int o9, .int u9].toArray below meth c H locs 0 0 (MQ below (va_Qv (fun (u : va_W) => ∃ (rz' : Nat) (rv' : Nat) (rw' : Int32) (rk' : Int32) (ro' : Nat → Int64) (rt' : Nat → Int32) (rb' : Nat → Int32) (wf6' : Nat → Int64) (wf7' : Nat → Int64), u = (wl_k_X2_tryBits_5 cI cJ cK xr r1 r2 r3 r4 r5 w0 w1 w2 w3 w4 w5 w6 w7 (nI rz') (nI rv') rw' rk' ro' rt' rb' wf5 wf6' wf7') ∧ rz' ≤ 64 ∧ rv' ≤ 8 ∧ rv' = rv ∧ rz' = rz) (my_B D (tyIJ cI cJ cK) A) A) [.ref xr, .int 5, .int o9, .int u9].toArray s 0 0 A) (F0 m 43 ls []) := by
        intro n9
        induction n9 with
        | zero =>
          intro x xr_size_43 xr_variedCount_43 xr_fewest_43 xr_known_43 r2_43 r3_43 r4_43 w6_43 w7_43 hn9
          exact absurd hn9 (Nat.not_lt_zero _)
        | succ n9 ih43 =>
          intro x xr_size_43 xr_variedCount_43 xr_fewest_43 xr_known_43 r2_43 r3_43 r4_43 w6_43 w7_43 hn9 hx0 hx1 hv hzz hz_xr_size_43 hz_xr_variedCount_43 H locs ls hP hD hS hl
          refine lv_iload hx hb dX2_tryBits_43 (lv_at hl 0 rfl) ?_
          refine lv_if_lt (tgt := 117) hx hb dX2_tryBits_45 (by decide) (fun c45 => ?_) (fun c45 => ?_)
          ·
            have d45 : x.toInt < (0 : Int) := my_lt c45 rfl (by decide +kernel)
            exact my_retV hx hb hr hlocks hK hS (wl_k_X2_tryBits_5 cI cJ cK xr r1 r2 r3 r4 r5 w0 w1 w2 w3 w4 w5 w6 w7 (nI xr_size_43) (nI xr_variedCount_43) xr_fewest_43 xr_known_43 r2_43 r3_43 r4_43 wf5 w6_43 w7_43) hP hD (⟨xr_size_43, xr_variedCount_43, xr_fewest_43, xr_known_43, r2_43, r3_43, r4_43, w6_43, w7_43, rfl, (by first | assumption | omega | trivial | decide +kernel), (by first | assumption | omega | trivial | decide +kernel), (by first | assumption | omega | trivial | decide +kernel), (by first | assumption | omega | trivial | decide +kernel)⟩) dX2_tryBits_117
          ·
            have d45 : x.toInt ≥ (0 : Int) := my_nlt c45 rfl (by decide +kernel)
            refine lv_iload_n hx hb dX2_tryBits_48 rfl (lv_at hl 6 rfl) ?_
            refine lv_iconst (v := 1) hx hb dX2_tryBits_49 (by decide +kernel) ?_
            refine lv_iadd hx hb dX2_tryBits_50 ?_
            refine lv_topi (fun z_5 ez_5 => ?_)
            try have tz_5 : z_5.toInt = u9.toInt + (1 : Int) := by rw [ez_5]; exact my_addI rfl (by decide +kernel) (by omega) (by omega)
            refine lv_lload hx hb dX2_tryBits_51 (lv_at hl 2 rfl) ?_
            refine lv_bipush (v := 8) hx hb dX2_tryBits_53 (by decide +kernel) ?_
            refine lv_iload hx hb dX2_tryBits_55 (lv_at hl 0 rfl) ?_
            refine lv_imul hx hb dX2_tryBits_57 ?_
            refine lv_topi (fun z_6 ez_6 => ?_)
            try have tz_6 : z_6.toInt = (8 : Int) * x.toInt := by rw [ez_6]; exact my_mulI (by decide +kernel) rfl (by omega) (by omega)
            refine lv_lushr hx hb dX2_tryBits_58 rfl ?_
            refine lv_topl (fun z_7 ez_7 => ?_)
            refine lv_ldc2 (v := 255) hx hb hown (hts (.constantLong RX2 70 (255)) (by decide +kernel)) dX2_tryBits_59 ?_
            refine lv_land hx hb dX2_tryBits_62 ?_
            refine lv_topl (fun z_8 ez_8 => ?_)
            refine lv_l2i hx hb dX2_tryBits_63 rfl ?_
            refine lv_topi (fun z_9 ez_9 => ?_)
            refine lv_iadd hx hb dX2_tryBits_64 ?_
            refine lv_topi (fun z_10 ez_10 => ?_)
            try have tz_10 : z_10.toInt = z_5.toInt + z_9.toInt := by rw [ez_10]; exact my_addI rfl rfl (by omega) (by omega)
            refine lv_istore (lv' := [(8, .int z_10), (7, .int x), (6, .int z_4), (4, .long r_1), (0, .ref xr), (1, .int 5), (2, .int o9), (3, .int u9)]) hx hb dX2_tryBits_65 hl (by decide) rfl (fun ls hl => ?_)
            refine lv_iload_n hx hb dX2_tryBits_67 rfl (lv_at hl 6 rfl) ?_
            refine lv_iload hx hb dX2_tryBits_68 (lv_at hl 1 rfl) ?_
            refine lv_ishr hx hb dX2_tryBits_70 ?_
            refine lv_topi (fun z_11 ez_11 => ?_)
            refine lv_iconst (v := 1) hx hb dX2_tryBits_71 (by decide +kernel) ?_
            refine lv_iand hx hb dX2_tryBits_72 ?_
            refine lv_topi (fun z_12 ez_12 => ?_)
            have hbz_12 : 0 ≤ z_12.toInt ∧ z_12.toInt ≤ 1 := by rw [ez_12]; exact my_andR (by decide +kernel) (by decide +kernel)
            refine lv_if_eq (tgt := 111) hx hb dX2_tryBits_73 (by decide) (fun c73 => ?_) (fun c73 => ?_)
            ·
              have d73 : z_12.toInt = (0 : Int) := my_eq c73 rfl (by decide +kernel)
              obtain ⟨z_13, ez_13⟩ : ∃ y : Int32, y = x + (-1) := ⟨_, rfl⟩
              try have tz_13 : z_13.toInt = x.toInt + (-1) := by rw [ez_13]; exact my_addI rfl (by decide +kernel) (by omega) (by omega)
              refine lv_iinc (v := z_13) (lv' := [(7, .int z_13), (8, .int z_10), (6, .int z_4), (4, .long r_1), (0, .ref xr), (1, .int 5), (2, .int o9), (3, .int u9)]) hx hb dX2_tryBits_111 hl (k := 1) rfl (by rw [ez_13]; rfl) (by decide) rfl (fun ls hl => ?_)
              refine lv_goto (tgt := 43) hx hb dX2_tryBits_114 (by decide) ?_
              exact ih43  z_13 xr_size_43 xr_variedCount_43 xr_fewest_43 xr_known_43 r2_43 r3_43 r4_43 w6_43 w7_43 (by omega) (by first | assumption | omega | decide +kernel) (by first | assumption | omega | decide +kernel) (by first | assumption | omega | decide +kernel) (by first | assumption | omega | decide +kernel) (by first | assumption | omega | decide +kernel) (by first | assumption | omega | decide +kernel) _ _ ls hP hD hS (lv_sub hl [0, 2, 3, 4, 5, 6, 7] rfl)
            ·
              have d73 : z_12.toInt ≠ (0 : Int) := my_ne c73 rfl (by decide +kernel)
              refine lv_iload hx hb dX2_tryBits_76 (lv_at hl 0 rfl) ?_
              refine lv_iload hx hb dX2_tryBits_78 (lv_at hl 2 rfl) ?_
              refine lv_iadd hx hb dX2_tryBits_80 ?_
              refine lv_topi (fun z_14 ez_14 => ?_)
              try have tz_14 : z_14.toInt = z_10.toInt + z_4.toInt := by rw [ez_14]; exact my_addI rfl rfl (by omega) (by omega)
              refine lv_aload_n hx hb dX2_tryBits_81 rfl (lv_at hl 4 rfl) ?_
              refine va_get (ci := 2) (v := .int xr_fewest_43) (C := RX2) (T := TX2) (N := 9) hx hb hts hi2 hown hK hP 0 rfl rfl 7 (by decide) fl37 (fun _ h9 => h9) rfl dX2_tryBits_82 ?_
              refine lv_icmp_ge (tgt := 111) hx hb dX2_tryBits_85 (by decide) (fun c85 => ?_) (fun c85 => ?_)
              ·
                have d85 : z_14.toInt ≥ xr_fewest_43.toInt := my_ge c85 rfl rfl
                obtain ⟨z_15, ez_15⟩ : ∃ y : Int32, y = x + (-1) := ⟨_, rfl⟩
                try have tz_15 : z_15.toInt = x.toInt + (-1) := by rw [ez_15]; exact my_addI rfl (by decide +kernel) (by omega) (by omega)
                refine lv_iinc (v := z_15) (lv' := [(7, .int z_15), (8, .int z_10), (6, .int z_4), (4, .long r_1), (0, .ref xr), (1, .int 5), (2, .int o9), (3, .int u9)]) hx hb dX2_tryBits_111 hl (k := 1) rfl (by rw [ez_15]; rfl) (by decide) rfl (fun ls hl => ?_)
                refine lv_goto (tgt := 43) hx hb dX2_tryBits_114 (by decide) ?_
                exact ih43  z_15 xr_size_43 xr_variedCount_43 xr_fewest_43 xr_known_43 r2_43 r3_43 r4_43 w6_43 w7_43 (by omega) (by first | assumption | omega | decide +kernel) (by first | assumption | omega | decide +kernel) (by first | assumption | omega | decide +kernel) (by first | assumption | omega | decide +kernel) (by first | assumption | omega | decide +kernel) (by first | assumption | omega | decide +kernel) _ _ ls hP hD hS (lv_sub hl [0, 2, 3, 4, 5, 6, 7] rfl)
              ·
                have d85 : z_14.toInt < xr_fewest_43.toInt := my_nge c85 rfl rfl
                refine lv_aload_n hx hb dX2_tryBits_88 rfl (lv_at hl 4 rfl) ?_
                refine va_get (ci := 2) (v := .ref r3) (C := RX2) (T := TX2) (N := 9) hx hb hts hi2 hown hK hP 0 rfl rfl 2 (by decide) fl20 (fun _ h9 => h9) rfl dX2_tryBits_89 ?_
                refine lv_iload_n hx hb dX2_tryBits_92 rfl (lv_at hl 5 rfl) ?_
                refine lv_iload hx hb dX2_tryBits_93 (lv_at hl 1 rfl) ?_
                refine va_iast hx hb hK hP hD hS 3 0 rfl rfl (vp_in_nI (n := 5) (by omega) (by omega)) dX2_tryBits_95 (fun H locs hP hD hS => ?_)
                obtain ⟨g_16, eg_16⟩ : ∃ g : Nat → Int32, g = upd r3_43 5 x := ⟨_, rfl⟩
                have eU : upd r3_43 (5 : Int32).toNatClampNeg x = g_16 := by rw [eg_16, show (5 : Int32).toNatClampNeg = 5 from by decide +kernel]
                rw [eU] at hP hD
                have hP : va_P D vwCl (wl_k_X2_tryBits_5 cI cJ cK xr r1 r2 r3 r4 r5 w0 w1 w2 w3 w4 w5 w6 w7 (nI xr_size_43) (nI xr_variedCount_43) xr_fewest_43 xr_known_43 r2_43 g_16 r4_43 wf5 w6_43 w7_43) H := hP
                have hD : va_D A (wl_k_X2_tryBits_5 cI cJ cK xr r1 r2 r3 r4 r5 w0 w1 w2 w3 w4 w5 w6 w7 (nI xr_size_43) (nI xr_variedCount_43) xr_fewest_43 xr_known_43 r2_43 g_16 r4_43 wf5 w6_43 w7_43) := hD
                refine lv_aload_n hx hb dX2_tryBits_96 rfl (lv_at hl 4 rfl) ?_
                refine lv_iload_n hx hb dX2_tryBits_97 rfl (lv_at hl 5 rfl) ?_
                refine lv_iload_n hx hb dX2_tryBits_98 rfl (lv_at hl 6 rfl) ?_
                refine lv_iconst (v := 1) hx hb dX2_tryBits_99 (by decide +kernel) ?_
                refine lv_iload hx hb dX2_tryBits_100 (lv_at hl 1 rfl) ?_
                refine lv_ishl hx hb dX2_tryBits_102 ?_
                refine lv_topi (fun z_17 ez_17 => ?_)
                refine lv_iconst (v := (-1)) hx hb dX2_tryBits_103 (by decide +kernel) ?_
                refine lv_ixor hx hb dX2_tryBits_104 ?_
                refine lv_topi (fun z_18 ez_18 => ?_)
                refine lv_iand hx hb dX2_tryBits_105 ?_
                refine lv_topi (fun z_19 ez_19 => ?_)
                refine lv_iload hx hb dX2_tryBits_106 (lv_at hl 0 rfl) ?_
                refine my_goVS (wc := (wl_k_X2_takeBit_5 cI cJ cK xr r1 r2 r3 r4 r5 w0 w1 w2 w3 w4 w5 w6 w7 (nI xr_size_43) (nI xr_variedCount_43) xr_fewest_43 xr_known_43 r2_43 g_16 r4_43 wf5 w6_43 w7_43)) hP hD hS hA [0, 1, 2, 3, 4, 5, 6, 7] rfl [some 0, some 1, some 2, some 3, some 4, some 5, some 6, some 7] (by decide +kernel) (my_cV (As := [.int 5, .int z_19, .int z_10]) (rest := []) (ci := 2) (wc := (wl_k_X2_takeBit_5 cI cJ cK xr r1 r2 r3 r4 r5 w0 w1 w2 w3 w4 w5 w6 w7 (nI xr_size_43) (nI xr_variedCount_43) xr_fewest_43 xr_known_43 r2_43 g_16 r4_43 wf5 w6_43 w7_43)) ⟨hx, hb, hml, hown, hts⟩ (cwV 3 hts gX2_tryBits_X2_takeBit rfl rfl rfl (by decide +kernel) ⟨Nat.le_of_ble_eq_true rfl, Nat.le_of_ble_eq_true rfl⟩) hN hK hP hD [0, 1, 2, 3, 4, 5, 6, 7] rfl (by decide) rfl 0 rfl rfl rfl rfl hl.1 rfl (Nat.le_of_ble_eq_true rfl) dX2_tryBits_108 ⟨Nat.le_of_ble_eq_true rfl, Nat.le_of_ble_eq_true rfl⟩  ((k_X2_takeBit_5 l D cI cJ cK xr r1 r2 r3 r4 r5 w0 w1 w2 w3 w4 w5 w6 w7 xr_size_43 xr_variedCount_43 xr_fewest_43 xr_known_43 r2_43 g_16 r4_43 wf5 w6_43 w7_43 z_19 z_10 (by first | assumption | omega | decide +kernel) (by first | assumption | omega | decide +kernel)) _)) (fun u H locs hp hPD hS => ?_)
                obtain ⟨rz_20, rv_21, rw_22, rk_23, ro_24, rt_25, rb_26, wf6_27, wf7_28, rfl, hhz_rz_29, hhz_rv_30, hv_31, hz_32⟩ := hp
                obtain ⟨hP, hD⟩ := hPD rfl
                have hP : va_P D vwCl (wl_k_X2_tryBits_5 cI cJ cK xr r1 r2 r3 r4 r5 w0 w1 w2 w3 w4 w5 w6 w7 (nI rz_20) (nI rv_21) rw_22 rk_23 ro_24 rt_25 rb_26 wf5 wf6_27 wf7_28) H := hP
                have hD : va_D A (wl_k_X2_tryBits_5 cI cJ cK xr r1 r2 r3 r4 r5 w0 w1 w2 w3 w4 w5 w6 w7 (nI rz_20) (nI rv_21) rw_22 rk_23 ro_24 rt_25 rb_26 wf5 wf6_27 wf7_28) := hD
                obtain ⟨z_33, ez_33⟩ : ∃ y : Int32, y = x + (-1) := ⟨_, rfl⟩
                try have tz_33 : z_33.toInt = x.toInt + (-1) := by rw [ez_33]; exact my_addI rfl (by decide +kernel) (by omega) (by omega)
                refine lv_iinc (v := z_33) (lv' := [(7, .int z_33), (8, .int z_10), (6, .int z_4), (4, .long r_1), (0, .ref xr), (1, .int 5), (2, .int o9), (3, .int u9)]) hx hb dX2_tryBits_111 hl (k := 1) rfl (by rw [ez_33]; rfl) (by decide) rfl (fun ls hl => ?_)
                refine lv_goto (tgt := 43) hx hb dX2_tryBits_114 (by decide) ?_
                exact ih43  z_33 rz_20 rv_21 rw_22 rk_23 ro_24 rt_25 rb_26 wf6_27 wf7_28 (by omega) (by first | assumption | omega | decide +kernel) (by first | assumption | omega | decide +kernel) (by first | assumption | omega | decide +kernel) (by first | assumption | omega | decide +kernel) (by first | assumption | omega | decide +kernel) (by first | assumption | omega | decide +kernel) _ _ ls hP hD hS (lv_sub hl [0, 2, 3, 4, 5, 6, 7] rfl)
      have ec_34 : (7 : Int32).toInt = 7 := by decide +kernel
      exact loop43 ((((7 : Int32).toInt + 1).toNat) + 1) (7 : Int32) rz rv rw rk ro rt rb wf6 wf7 (Nat.lt_succ_self _) (by first | assumption | omega | decide +kernel) (by first | assumption | omega | decide +kernel) (by first | assumption | omega | decide +kernel) (by first | assumption | omega | decide +kernel) (by first | assumption | omega | decide +kernel) (by first | assumption | omega | decide +kernel) _ _ ls hP hD hS (lv_sub hl [0, 1, 2, 3, 4, 5, 6] rfl)
    ·
      exact absurd c11 (by decide +kernel)
abbrev wl_k_X2_takeBit_4 (cI cJ cK : ClassId) (xr : Nat) (r1 : Nat) (r2 : Nat) (r3 : Nat) (r4 : Nat) (r5 : Nat) (w0 : Nat) (w1 : Nat) (w2 : Nat) (w3 : Nat) (w4 : Nat) (w5 : Nat) (w6 : Nat) (w7 : Nat) (v0_ : Int32) (v1_ : Int32) (v2_ : Int32) (v3_ : Int32) (v4_ : Nat → Int64) (v5_ : Nat → Int32) (v6_ : Nat → Int32) (v7_ : Nat → Int64) (v8_ : Nat → Int64) (v9_ : Nat → Int64) (v10_ : Nat → Int64) : va_W := [(xr, .inr (2, [.ref r1, .ref r2, .ref r3, .ref r4, .ref r5, .int v0_, .int v1_, .int v2_, .int v3_])), (r1, .inl (cK, 8, .inr (.inr (.inr (.inr (fun j => ([w0, w1, w2, w3, w4, w5, w6, w7] : List Nat)[j]?)))))), (r2, .inl (cJ, 64, .inr (.inl v4_))), (r3, .inl (cI, 8, .inl v5_)), (r4, .inl (cI, 8, .inl v6_)), (w4, .inl (cJ, 64, .inr (.inl v7_))), (w5, .inl (cJ, 64, .inr (.inl v8_))), (w6, .inl (cJ, 64, .inr (.inl v9_))), (w7, .inl (cJ, 64, .inr (.inl v10_)))]
set_option maxHeartbeats 4000000 in
set_option maxRecDepth 100000 in
theorem k_X2_takeBit_4 (l : Launch) (D : va_G) (cI cJ cK : ClassId) (xr : Nat) (r1 : Nat) (r2 : Nat) (r3 : Nat) (r4 : Nat) (r5 : Nat) (w0 : Nat) (w1 : Nat) (w2 : Nat) (w3 : Nat) (w4 : Nat) (w5 : Nat) (w6 : Nat) (w7 : Nat) (rz : Nat) (rv : Nat) (rw : Int32) (rk : Int32) (ro : Nat → Int64) (rt : Nat → Int32) (rb : Nat → Int32) (wf4 : Nat → Int64) (wf5 : Nat → Int64) (wf6 : Nat → Int64) (wf7 : Nat → Int64) (o9 : Int32) (u9 : Int32) (hz_rz : rz ≤ 64) (hz_rv : rv ≤ 8) : ctV l yX2_takeBit wsX2_takeBit ({ frames := 8, cells := 0, slots := 0, locals := 480 } : Room) D (tyIJ cI cJ cK) [.ref xr, .int 4, .int o9, .int u9] (wl_k_X2_takeBit_4 cI cJ cK xr r1 r2 r3 r4 r5 w0 w1 w2 w3 w4 w5 w6 w7 (nI rz) (nI rv) rw rk ro rt rb wf4 wf5 wf6 wf7) (fun (u : va_W) => ∃ (rz' : Nat) (rv' : Nat) (rw' : Int32) (rk' : Int32) (ro' : Nat → Int64) (rt' : Nat → Int32) (rb' : Nat → Int32) (wf5' : Nat → Int64) (wf6' : Nat → Int64) (wf7' : Nat → Int64), u = (wl_k_X2_takeBit_4 cI cJ cK xr r1 r2 r3 r4 r5 w0 w1 w2 w3 w4 w5 w6 w7 (nI rz') (nI rv') rw' rk' ro' rt' rb' wf4 wf5' wf6' wf7') ∧ rz' ≤ 64 ∧ rv' ≤ 8 ∧ rv' = rv ∧ rz' = rz) := by
  refine ctV.of (cc := cX2_takeBit) (maxL := 4) (ret := none) (by decide) rfl (Nat.le_of_ble_eq_true rfl) ?_
  intro p e s m below meth c ls A hx hb hr hts hown hml hlocks hname hA hK hN hP hD hS hl
  have hl : lv_has ls 4 [(0, .ref xr), (1, .int 4), (2, .int o9), (3, .int u9)] := hl
  have hown : s.vm.findClass RX2 = some m.cls := hown
  have hi2 : ∀ w ∈ u_ws RX2 TX2 9, w ∈ wsX2_takeBit := by decide +kernel
  have fl11 := hts (.fieldLink RX2 11 "PlaneColumn$OrderSearch" "lines" "[[J") (by decide +kernel)
  have fl20 := hts (.fieldLink RX2 20 "PlaneColumn$OrderSearch" "tried" "[I") (by decide +kernel)
  have fl24 := hts (.fieldLink RX2 24 "PlaneColumn$OrderSearch" "best" "[I") (by decide +kernel)
  have fl34 := hts (.fieldLink RX2 34 "PlaneColumn$OrderSearch" "variedCount" "I") (by decide +kernel)
  have fl37 := hts (.fieldLink RX2 37 "PlaneColumn$OrderSearch" "fewest" "I") (by decide +kernel)
  refine lv_iload_n hx hb dX2_takeBit_0 rfl (lv_at hl 2 rfl) ?_
  refine lv_if_ne (tgt := 29) hx hb dX2_takeBit_1 (by decide) (fun c1 => ?_) (fun c1 => ?_)
  ·
    have d1 : o9.toInt ≠ (0 : Int) := my_ne c1 rfl (by decide +kernel)
    refine lv_iload_n hx hb dX2_takeBit_29 rfl (lv_at hl 1 rfl) ?_
    refine lv_iconst (v := 1) hx hb dX2_takeBit_30 (by decide +kernel) ?_
    refine lv_iadd hx hb dX2_takeBit_31 ?_
    refine my_eqi (y := 5) (by decide +kernel) ?_
    refine lv_bipush (v := 8) hx hb dX2_takeBit_32 (by decide +kernel) ?_
    refine lv_icmp_ge (tgt := 70) hx hb dX2_takeBit_34 (by decide) (fun c34 => ?_) (fun c34 => ?_)
    ·
      exact absurd c34 (by decide +kernel)
    ·
      refine lv_aload_n hx hb dX2_takeBit_37 rfl (lv_at hl 0 rfl) ?_
      refine lv_aload_n hx hb dX2_takeBit_38 rfl (lv_at hl 0 rfl) ?_
      refine va_get (ci := 2) (v := .ref r1) (C := RX2) (T := TX2) (N := 9) hx hb hts hi2 hown hK hP 0 rfl rfl 0 (by decide) fl11 (fun _ h9 => h9) rfl dX2_takeBit_39 ?_
      refine lv_iload_n hx hb dX2_takeBit_42 rfl (lv_at hl 1 rfl) ?_
      refine my_aald hx hb hK hP 1 rfl (vp_in_nI (n := 4) (by omega) (by omega)) dX2_takeBit_43 ?_
      refine my_eqa (y := .ref w4) (by rw [show (4 : Int32).toNatClampNeg = 4 by decide +kernel]; rfl) ?_
      refine lv_aload_n hx hb dX2_takeBit_44 rfl (lv_at hl 0 rfl) ?_
      refine va_get (ci := 2) (v := .ref r1) (C := RX2) (T := TX2) (N := 9) hx hb hts hi2 hown hK hP 0 rfl rfl 0 (by decide) fl11 (fun _ h9 => h9) rfl dX2_takeBit_45 ?_
      refine lv_iload_n hx hb dX2_takeBit_48 rfl (lv_at hl 1 rfl) ?_
      refine lv_iconst (v := 1) hx hb dX2_takeBit_49 (by decide +kernel) ?_
      refine lv_iadd hx hb dX2_takeBit_50 ?_
      refine my_eqi (y := 5) (by decide +kernel) ?_
      refine my_aald hx hb hK hP 1 rfl (vp_in_nI (n := 5) (by omega) (by omega)) dX2_takeBit_51 ?_
      refine my_eqa (y := .ref w5) (by rw [show (5 : Int32).toNatClampNeg = 5 by decide +kernel]; rfl) ?_
      refine lv_aload_n hx hb dX2_takeBit_52 rfl (lv_at hl 0 rfl) ?_
      refine va_get (ci := 2) (v := .ref r3) (C := RX2) (T := TX2) (N := 9) hx hb hts hi2 hown hK hP 0 rfl rfl 2 (by decide) fl20 (fun _ h9 => h9) rfl dX2_takeBit_53 ?_
      refine lv_iload_n hx hb dX2_takeBit_56 rfl (lv_at hl 1 rfl) ?_
      refine va_iald hx hb hK hP 3 0 rfl rfl (vp_in_nI (n := 4) (by omega) (by omega)) dX2_takeBit_57 ?_
      refine my_eqi (y := rt 4) (congrArg rt (show (4 : Int32).toNatClampNeg = 4 by decide +kernel)) ?_
      refine my_goVS (wc := (wl_k_X2_part cI cJ cK xr r1 r2 r3 r4 r5 w4 w5 (nI rz) (nI rv) rw rk ro wf4 wf5)) hP hD hS hA [0, 2, 5, 6] rfl [some 0, none, some 1, none, none, some 2, some 3] (by decide +kernel) (my_cV (As := [.ref w4, .ref w5, .int (rt 4)]) (rest := []) (ci := 2) (wc := (wl_k_X2_part cI cJ cK xr r1 r2 r3 r4 r5 w4 w5 (nI rz) (nI rv) rw rk ro wf4 wf5)) ⟨hx, hb, hml, hown, hts⟩ (cwV 3 hts gX2_takeBit_X2_part rfl rfl rfl (by decide +kernel) ⟨Nat.le_of_ble_eq_true rfl, Nat.le_of_ble_eq_true rfl⟩) hN hK hP hD [0, 2, 5, 6] rfl (by decide) rfl 0 rfl rfl rfl rfl hl.1 rfl (Nat.le_of_ble_eq_true rfl) dX2_takeBit_58 ⟨Nat.le_of_ble_eq_true rfl, Nat.le_of_ble_eq_true rfl⟩  ((k_X2_part l D cI cJ cK xr r1 r2 r3 r4 r5 w4 w5 rz rv rw rk ro wf4 wf5 (rt 4) (by first | assumption | omega | decide +kernel) (by first | assumption | omega | decide +kernel)) _)) (fun u H locs hp hPD hS => ?_)
      obtain ⟨ro_2, wfb_3, rfl⟩ := hp
      obtain ⟨hP, hD⟩ := hPD rfl
      have hP : va_P D vwCl (wl_k_X2_takeBit_4 cI cJ cK xr r1 r2 r3 r4 r5 w0 w1 w2 w3 w4 w5 w6 w7 (nI rz) (nI rv) rw rk ro_2 rt rb wf4 wfb_3 wf6 wf7) H := hP
      have hD : va_D A (wl_k_X2_takeBit_4 cI cJ cK xr r1 r2 r3 r4 r5 w0 w1 w2 w3 w4 w5 w6 w7 (nI rz) (nI rv) rw rk ro_2 rt rb wf4 wfb_3 wf6 wf7) := hD
      refine lv_aload_n hx hb dX2_takeBit_61 rfl (lv_at hl 0 rfl) ?_
      refine lv_iload_n hx hb dX2_takeBit_62 rfl (lv_at hl 1 rfl) ?_
      refine lv_iconst (v := 1) hx hb dX2_takeBit_63 (by decide +kernel) ?_
      refine lv_iadd hx hb dX2_takeBit_64 ?_
      refine my_eqi (y := 5) (by decide +kernel) ?_
      refine lv_iload_n hx hb dX2_takeBit_65 rfl (lv_at hl 2 rfl) ?_
      refine lv_iload_n hx hb dX2_takeBit_66 rfl (lv_at hl 3 rfl) ?_
      refine my_goVS (wc := (wl_k_X2_tryBits_5 cI cJ cK xr r1 r2 r3 r4 r5 w0 w1 w2 w3 w4 w5 w6 w7 (nI rz) (nI rv) rw rk ro_2 rt rb wfb_3 wf6 wf7)) hP hD hS hA [0, 1, 2, 3, 4, 6, 7, 8] rfl [some 0, some 1, some 2, some 3, some 4, none, some 5, some 6, some 7] (by decide +kernel) (my_cV (As := [.int 5, .int o9, .int u9]) (rest := []) (ci := 2) (wc := (wl_k_X2_tryBits_5 cI cJ cK xr r1 r2 r3 r4 r5 w0 w1 w2 w3 w4 w5 w6 w7 (nI rz) (nI rv) rw rk ro_2 rt rb wfb_3 wf6 wf7)) ⟨hx, hb, hml, hown, hts⟩ (cwV 3 hts gX2_takeBit_X2_tryBits rfl rfl rfl (by decide +kernel) ⟨Nat.le_of_ble_eq_true rfl, Nat.le_of_ble_eq_true rfl⟩) hN hK hP hD [0, 1, 2, 3, 4, 6, 7, 8] rfl (by decide) rfl 0 rfl rfl rfl rfl hl.1 rfl (Nat.le_of_ble_eq_true rfl) dX2_takeBit_67 ⟨Nat.le_of_ble_eq_true rfl, Nat.le_of_ble_eq_true rfl⟩  ((k_X2_tryBits_5 l D cI cJ cK xr r1 r2 r3 r4 r5 w0 w1 w2 w3 w4 w5 w6 w7 rz rv rw rk ro_2 rt rb wfb_3 wf6 wf7 o9 u9 (by first | assumption | omega | decide +kernel) (by first | assumption | omega | decide +kernel)) _)) (fun u H locs hp hPD hS => ?_)
      obtain ⟨rz_4, rv_5, rw_6, rk_7, ro_8, rt_9, rb_10, wf6_11, wf7_12, rfl, hhz_rz_13, hhz_rv_14, hv_15, hz_16⟩ := hp
      obtain ⟨hP, hD⟩ := hPD rfl
      have hP : va_P D vwCl (wl_k_X2_takeBit_4 cI cJ cK xr r1 r2 r3 r4 r5 w0 w1 w2 w3 w4 w5 w6 w7 (nI rz_4) (nI rv_5) rw_6 rk_7 ro_8 rt_9 rb_10 wf4 wfb_3 wf6_11 wf7_12) H := hP
      have hD : va_D A (wl_k_X2_takeBit_4 cI cJ cK xr r1 r2 r3 r4 r5 w0 w1 w2 w3 w4 w5 w6 w7 (nI rz_4) (nI rv_5) rw_6 rk_7 ro_8 rt_9 rb_10 wf4 wfb_3 wf6_11 wf7_12) := hD
      exact my_retV hx hb hr hlocks hK hS (wl_k_X2_takeBit_4 cI cJ cK xr r1 r2 r3 r4 r5 w0 w1 w2 w3 w4 w5 w6 w7 (nI rz_4) (nI rv_5) rw_6 rk_7 ro_8 rt_9 rb_10 wf4 wfb_3 wf6_11 wf7_12) hP hD (⟨rz_4, rv_5, rw_6, rk_7, ro_8, rt_9, rb_10, wfb_3, wf6_11, wf7_12, rfl, (by first | assumption | omega | trivial | decide +kernel), (by first | assumption | omega | trivial | decide +kernel), (by first | assumption | omega | trivial | decide +kernel), (by first | assumption | omega | trivial | decide +kernel)⟩) dX2_takeBit_70
  ·
    have d1 : o9.toInt = (0 : Int) := my_eq c1 rfl (by decide +kernel)
    refine lv_aload_n hx hb dX2_takeBit_4 rfl (lv_at hl 0 rfl) ?_
    refine lv_iload_n hx hb dX2_takeBit_5 rfl (lv_at hl 3 rfl) ?_
    refine va_put (ci := 2) (v := .int u9) (ty := (.int)) (C := RX2) (T := TX2) (N := 9) hx hb hts hi2 tyX2 tyX2_ok nmX2 hown hK hP hD hS 0 rfl rfl 7 (by decide) fl37 (fun _ h9 => h9) rfl (by decide +kernel) rfl rfl (Nat.le_of_ble_eq_true rfl) dX2_takeBit_6 (fun H locs hP hD hS => ?_)
    have hP : va_P D vwCl (wl_k_X2_takeBit_4 cI cJ cK xr r1 r2 r3 r4 r5 w0 w1 w2 w3 w4 w5 w6 w7 (nI rz) (nI rv) u9 rk ro rt rb wf4 wf5 wf6 wf7) H := hP
    have hD : va_D A (wl_k_X2_takeBit_4 cI cJ cK xr r1 r2 r3 r4 r5 w0 w1 w2 w3 w4 w5 w6 w7 (nI rz) (nI rv) u9 rk ro rt rb wf4 wf5 wf6 wf7) := hD
    refine lv_aload_n hx hb dX2_takeBit_9 rfl (lv_at hl 0 rfl) ?_
    refine va_get (ci := 2) (v := .ref r3) (C := RX2) (T := TX2) (N := 9) hx hb hts hi2 hown hK hP 0 rfl rfl 2 (by decide) fl20 (fun _ h9 => h9) rfl dX2_takeBit_10 ?_
    refine lv_iconst (v := 0) hx hb dX2_takeBit_13 (by decide +kernel) ?_
    refine lv_aload_n hx hb dX2_takeBit_14 rfl (lv_at hl 0 rfl) ?_
    refine va_get (ci := 2) (v := .ref r4) (C := RX2) (T := TX2) (N := 9) hx hb hts hi2 hown hK hP 0 rfl rfl 3 (by decide) fl24 (fun _ h9 => h9) rfl dX2_takeBit_15 ?_
    refine lv_iconst (v := 0) hx hb dX2_takeBit_18 (by decide +kernel) ?_
    refine lv_aload_n hx hb dX2_takeBit_19 rfl (lv_at hl 0 rfl) ?_
    refine va_get (ci := 2) (v := .int (nI rv)) (C := RX2) (T := TX2) (N := 9) hx hb hts hi2 hown hK hP 0 rfl rfl 6 (by decide) fl34 (fun _ h9 => h9) rfl dX2_takeBit_20 ?_
    refine va_copyi hx hb (hml.trans hl.1.symm) hown (hts (.methodLink RX2 75 arraycopyName) (by decide +kernel)) (hts (.native arraycopyName) (by decide +kernel)) (hts (.static arraycopyName) (by decide +kernel)) (hts (.initialized "java/lang/System") (by decide +kernel)) hK hP hD hS 3 4 0 0 rfl rfl rfl rfl rfl (by decide +kernel) (by decide +kernel) (nI_nneg (by omega)) (by rw [show (0 : Int32).toNatClampNeg = 0 from (by decide +kernel), show (nI rv : Int32).toNatClampNeg = rv from (nI_clamp (by omega))]; omega) (by rw [show (0 : Int32).toNatClampNeg = 0 from (by decide +kernel), show (nI rv : Int32).toNatClampNeg = rv from (nI_clamp (by omega))]; omega) (fun _ _ => rfl) (Nat.le_of_ble_eq_true rfl) (Nat.le_of_ble_eq_true rfl) dX2_takeBit_23 (fun H locs hP hD hS => ?_)
    obtain ⟨g_17, eg_17⟩ : ∃ g : Nat → Int32, g = va_cpy rt rb 0 0 rv := ⟨_, rfl⟩
    have eU : va_cpy rt rb (0 : Int32).toNatClampNeg (0 : Int32).toNatClampNeg (nI rv : Int32).toNatClampNeg = g_17 := by rw [eg_17, show (0 : Int32).toNatClampNeg = 0 from (by decide +kernel), show (nI rv : Int32).toNatClampNeg = rv from (nI_clamp (by omega))]
    rw [eU] at hP hD
    have hP : va_P D vwCl (wl_k_X2_takeBit_4 cI cJ cK xr r1 r2 r3 r4 r5 w0 w1 w2 w3 w4 w5 w6 w7 (nI rz) (nI rv) u9 rk ro rt g_17 wf4 wf5 wf6 wf7) H := hP
    have hD : va_D A (wl_k_X2_takeBit_4 cI cJ cK xr r1 r2 r3 r4 r5 w0 w1 w2 w3 w4 w5 w6 w7 (nI rz) (nI rv) u9 rk ro rt g_17 wf4 wf5 wf6 wf7) := hD
    refine lv_goto (tgt := 70) hx hb dX2_takeBit_26 (by decide) ?_
    exact my_retV hx hb hr hlocks hK hS (wl_k_X2_takeBit_4 cI cJ cK xr r1 r2 r3 r4 r5 w0 w1 w2 w3 w4 w5 w6 w7 (nI rz) (nI rv) u9 rk ro rt g_17 wf4 wf5 wf6 wf7) hP hD (⟨rz, rv, u9, rk, ro, rt, g_17, wf5, wf6, wf7, rfl, (by first | assumption | omega | trivial | decide +kernel), (by first | assumption | omega | trivial | decide +kernel), (by first | assumption | omega | trivial | decide +kernel), (by first | assumption | omega | trivial | decide +kernel)⟩) dX2_takeBit_70
abbrev wl_k_X2_tryBits_4 (cI cJ cK : ClassId) (xr : Nat) (r1 : Nat) (r2 : Nat) (r3 : Nat) (r4 : Nat) (r5 : Nat) (w0 : Nat) (w1 : Nat) (w2 : Nat) (w3 : Nat) (w4 : Nat) (w5 : Nat) (w6 : Nat) (w7 : Nat) (v0_ : Int32) (v1_ : Int32) (v2_ : Int32) (v3_ : Int32) (v4_ : Nat → Int64) (v5_ : Nat → Int32) (v6_ : Nat → Int32) (v7_ : Nat → Int64) (v8_ : Nat → Int64) (v9_ : Nat → Int64) (v10_ : Nat → Int64) : va_W := [(xr, .inr (2, [.ref r1, .ref r2, .ref r3, .ref r4, .ref r5, .int v0_, .int v1_, .int v2_, .int v3_])), (r1, .inl (cK, 8, .inr (.inr (.inr (.inr (fun j => ([w0, w1, w2, w3, w4, w5, w6, w7] : List Nat)[j]?)))))), (r2, .inl (cJ, 64, .inr (.inl v4_))), (r3, .inl (cI, 8, .inl v5_)), (r4, .inl (cI, 8, .inl v6_)), (w4, .inl (cJ, 64, .inr (.inl v7_))), (w5, .inl (cJ, 64, .inr (.inl v8_))), (w6, .inl (cJ, 64, .inr (.inl v9_))), (w7, .inl (cJ, 64, .inr (.inl v10_)))]
set_option maxHeartbeats 4000000 in
set_option maxRecDepth 100000 in
theorem k_X2_tryBits_4 (l : Launch) (D : va_G) (cI cJ cK : ClassId) (xr : Nat) (r1 : Nat) (r2 : Nat) (r3 : Nat) (r4 : Nat) (r5 : Nat) (w0 : Nat) (w1 : Nat) (w2 : Nat) (w3 : Nat) (w4 : Nat) (w5 : Nat) (w6 : Nat) (w7 : Nat) (rz : Nat) (rv : Nat) (rw : Int32) (rk : Int32) (ro : Nat → Int64) (rt : Nat → Int32) (rb : Nat → Int32) (wf4 : Nat → Int64) (wf5 : Nat → Int64) (wf6 : Nat → Int64) (wf7 : Nat → Int64) (o9 : Int32) (u9 : Int32) (hz_rz : rz ≤ 64) (hz_rv : rv ≤ 8) : ctV l yX2_tryBits wsX2_tryBits ({ frames := 9, cells := 0, slots := 0, locals := 540 } : Room) D (tyIJ cI cJ cK) [.ref xr, .int 4, .int o9, .int u9] (wl_k_X2_tryBits_4 cI cJ cK xr r1 r2 r3 r4 r5 w0 w1 w2 w3 w4 w5 w6 w7 (nI rz) (nI rv) rw rk ro rt rb wf4 wf5 wf6 wf7) (fun (u : va_W) => ∃ (rz' : Nat) (rv' : Nat) (rw' : Int32) (rk' : Int32) (ro' : Nat → Int64) (rt' : Nat → Int32) (rb' : Nat → Int32) (wf5' : Nat → Int64) (wf6' : Nat → Int64) (wf7' : Nat → Int64), u = (wl_k_X2_tryBits_4 cI cJ cK xr r1 r2 r3 r4 r5 w0 w1 w2 w3 w4 w5 w6 w7 (nI rz') (nI rv') rw' rk' ro' rt' rb' wf4 wf5' wf6' wf7') ∧ rz' ≤ 64 ∧ rv' ≤ 8 ∧ rv' = rv ∧ rz' = rz) := by
  refine ctV.of (cc := cX2_tryBits) (maxL := 9) (ret := none) (by decide) rfl (Nat.le_of_ble_eq_true rfl) ?_
  intro p e s m below meth c ls A hx hb hr hts hown hml hlocks hname hA hK hN hP hD hS hl
  have hl : lv_has ls 9 [(0, .ref xr), (1, .int 4), (2, .int o9), (3, .int u9)] := hl
  have hown : s.vm.findClass RX2 = some m.cls := hown
  have hi2 : ∀ w ∈ u_ws RX2 TX2 9, w ∈ wsX2_tryBits := by decide +kernel
  have fl11 := hts (.fieldLink RX2 11 "PlaneColumn$OrderSearch" "lines" "[[J") (by decide +kernel)
  have fl20 := hts (.fieldLink RX2 20 "PlaneColumn$OrderSearch" "tried" "[I") (by decide +kernel)
  have fl34 := hts (.fieldLink RX2 34 "PlaneColumn$OrderSearch" "variedCount" "I") (by decide +kernel)
  have fl37 := hts (.fieldLink RX2 37 "PlaneColumn$OrderSearch" "fewest" "I") (by decide +kernel)
  refine lv_iload_n hx hb dX2_tryBits_0 rfl (lv_at hl 1 rfl) ?_
  refine lv_aload_n hx hb dX2_tryBits_1 rfl (lv_at hl 0 rfl) ?_
  refine va_get (ci := 2) (v := .int (nI rv)) (C := RX2) (T := TX2) (N := 9) hx hb hts hi2 hown hK hP 0 rfl rfl 6 (by decide) fl34 (fun _ h9 => h9) rfl dX2_tryBits_2 ?_
  refine lv_icmp_ge (tgt := 14) hx hb dX2_tryBits_5 (by decide) (fun c5 => ?_) (fun c5 => ?_)
  ·
    have d5 : (4 : Int) ≥ ((rv : Nat) : Int) := my_ge c5 (by decide +kernel) (nI_toInt (by omega))
    exact my_retV hx hb hr hlocks hK hS (wl_k_X2_tryBits_4 cI cJ cK xr r1 r2 r3 r4 r5 w0 w1 w2 w3 w4 w5 w6 w7 (nI rz) (nI rv) rw rk ro rt rb wf4 wf5 wf6 wf7) hP hD (⟨rz, rv, rw, rk, ro, rt, rb, wf5, wf6, wf7, rfl, (by first | assumption | omega | trivial | decide +kernel), (by first | assumption | omega | trivial | decide +kernel), (by first | assumption | omega | trivial | decide +kernel), (by first | assumption | omega | trivial | decide +kernel)⟩) dX2_tryBits_14
  ·
    have d5 : (4 : Int) < ((rv : Nat) : Int) := my_nge c5 (by decide +kernel) (nI_toInt (by omega))
    refine lv_iload_n hx hb dX2_tryBits_8 rfl (lv_at hl 1 rfl) ?_
    refine lv_bipush (v := 8) hx hb dX2_tryBits_9 (by decide +kernel) ?_
    refine lv_icmp_lt (tgt := 15) hx hb dX2_tryBits_11 (by decide) (fun c11 => ?_) (fun c11 => ?_)
    ·
      refine lv_aload_n hx hb dX2_tryBits_15 rfl (lv_at hl 0 rfl) ?_
      refine lv_aload_n hx hb dX2_tryBits_16 rfl (lv_at hl 0 rfl) ?_
      refine va_get (ci := 2) (v := .ref r1) (C := RX2) (T := TX2) (N := 9) hx hb hts hi2 hown hK hP 0 rfl rfl 0 (by decide) fl11 (fun _ h9 => h9) rfl dX2_tryBits_17 ?_
      refine lv_iload_n hx hb dX2_tryBits_20 rfl (lv_at hl 1 rfl) ?_
      refine my_aald hx hb hK hP 1 rfl (vp_in_nI (n := 4) (by omega) (by omega)) dX2_tryBits_21 ?_
      refine my_eqa (y := .ref w4) (by rw [show (4 : Int32).toNatClampNeg = 4 by decide +kernel]; rfl) ?_
      refine my_gpL (my_pV (As := [.ref w4]) (rest := []) (ci := 2) ⟨hx, hb, hml, hown, hts⟩ (cwV 1 hts gX2_tryBits_X2_changesOf rfl rfl rfl (by decide +kernel) ⟨Nat.le_of_ble_eq_true rfl, Nat.le_of_ble_eq_true rfl⟩) hN hK hP [0, 5] rfl 0 rfl rfl rfl rfl hl.1 rfl (Nat.le_of_ble_eq_true rfl) dX2_tryBits_22 ⟨Nat.le_of_ble_eq_true rfl, Nat.le_of_ble_eq_true rfl⟩  (k_X2_changesOf l D cI cJ cK xr r1 r2 r3 r4 r5 w4 rz rv rw rk wf4 (by first | assumption | omega | decide +kernel) (by first | assumption | omega | decide +kernel))) (fun r hp => ?_)
      obtain _ := hp
      obtain ⟨r_1, rfl⟩ : ∃ z, z = r := ⟨_, rfl⟩
      refine lv_lstore (lv' := [(4, .long r_1), (0, .ref xr), (1, .int 4), (2, .int o9), (3, .int u9)]) hx hb dX2_tryBits_25 hl (by decide) rfl (fun ls hl => ?_)
      refine lv_iconst (v := 2) hx hb dX2_tryBits_27 (by decide +kernel) ?_
      refine lv_aload_n hx hb dX2_tryBits_28 rfl (lv_at hl 1 rfl) ?_
      refine va_get (ci := 2) (v := .int (nI rv)) (C := RX2) (T := TX2) (N := 9) hx hb hts hi2 hown hK hP 0 rfl rfl 6 (by decide) fl34 (fun _ h9 => h9) rfl dX2_tryBits_29 ?_
      refine lv_iconst (v := 1) hx hb dX2_tryBits_32 (by decide +kernel) ?_
      refine lv_isub hx hb dX2_tryBits_33 ?_
      refine lv_topi (fun z_2 ez_2 => ?_)
      try have tz_2 : z_2.toInt = ((rv : Nat) : Int) - (1 : Int) := by rw [ez_2]; exact my_subI (nI_toInt (by omega)) (by decide +kernel) (by omega) (by omega)
      refine lv_iload_n hx hb dX2_tryBits_34 rfl (lv_at hl 2 rfl) ?_
      refine lv_isub hx hb dX2_tryBits_35 ?_
      refine lv_topi (fun z_3 ez_3 => ?_)
      try have tz_3 : z_3.toInt = z_2.toInt - (4 : Int) := by rw [ez_3]; exact my_subI rfl (by decide +kernel) (by omega) (by omega)
      refine lv_imul hx hb dX2_tryBits_36 ?_
      refine lv_topi (fun z_4 ez_4 => ?_)
      try have tz_4 : z_4.toInt = (2 : Int) * z_3.toInt := by rw [ez_4]; exact my_mulI (by decide +kernel) rfl (by omega) (by omega)
      refine lv_istore (lv' := [(6, .int z_4), (4, .long r_1), (0, .ref xr), (1, .int 4), (2, .int o9), (3, .int u9)]) hx hb dX2_tryBits_37 hl (by decide) rfl (fun ls hl => ?_)
      refine lv_bipush (v := 7) hx hb dX2_tryBits_39 (by decide +kernel) ?_
      refine lv_istore (lv' := [(7, .int 7), (6, .int z_4), (4, .long r_1), (0, .ref xr), (1, .int 4), (2, .int o9), (3, .int u9)]) hx hb dX2_tryBits_41 hl (by decide) rfl (fun ls hl => ?_)
      have loop43 : ∀ (n9 : Nat) (x : Int32) (xr_size_43 : Nat) (xr_variedCount_43 : Nat) (xr_fewest_43 : Int32) (xr_known_43 : Int32) (r2_43 : Nat → Int64) (r3_43 : Nat → Int32) (r4_43 : Nat → Int32) (w5_43 : Nat → Int64) (w6_43 : Nat → Int64) (w7_43 : Nat → Int64), (x.toInt + 1).toNat < n9 → (-1 ≤ x.toInt) → (x.toInt ≤ 7) → (xr_variedCount_43 = rv) → (xr_size_43 = rz) → (xr_size_43 ≤ 64) → (xr_variedCount_43 ≤ 8) → ∀ (H : Heap) (locs : List Loc) (ls : Array Slot), va_P D vwCl (wl_k_X2_tryBits_4 cI cJ cK xr r1 r2 r3 r4 r5 w0 w1 w2 w3 w4 w5 w6 w7 (nI xr_size_43) (nI xr_variedCount_43) xr_fewest_43 xr_known_43 r2_43 r3_43 r4_43 wf4 w5_43 w6_43 w7_43) H → va_D A (wl_k_X2_tryBits_4 cI cJ cK xr r1 r2 r3 r4 r5 w0 w1 w2 w3 w4 w5 w6 w7 (nI xr_size_43) (nI xr_variedCount_43) xr_fewest_43 xr_known_43 r2_43 r3_43 r4_43 wf4 w5_43 w6_43 w7_43) → va_S A s.heap H locs → lv_has ls 9 [(7, .int x), (6, .int z_4), (4, .long r_1), (0, .ref xr), (1, .int 4), (2, .int o9), (3, .int u9)] → W p l e ({ frames := 9, cells := 0, slots := 0, locals := 540 } : Room) s m [.ref xr, .int 4, .int o9, .int u9].toArray below meth c H locs 0 0 (MQ below (va_Qv (fun (u : va_W) => ∃ (rz' : Nat) (rv' : Nat) (rw' : Int32) (rk' : Int32) (ro' : Nat → Int64) (rt' : Nat → Int32) (rb' : Nat → Int32) (wf5' : Nat → Int64) (wf6' : Nat → Int64) (wf7' : Nat → Int64), u = (wl_k_X2_tryBits_4 cI cJ cK xr r1 r2 r3 r4 r5 w0 w1 w2 w3 w4 w5 w6 w7 (nI rz') (nI rv') rw' rk' ro' rt' rb' wf4 wf5' wf6' wf7') ∧ rz' ≤ 64 ∧ rv' ≤ 8 ∧ rv' = rv ∧ rz' = rz) (my_B D (tyIJ cI cJ cK) A) A) [.ref xr, .int 4, .int o9, .int u9].toArray s 0 0 A) (F0 m 43 ls []) := by
        intro n9
        induction n9 with
        | zero =>
          intro x xr_size_43 xr_variedCount_43 xr_fewest_43 xr_known_43 r2_43 r3_43 r4_43 w5_43 w6_43 w7_43 hn9
          exact absurd hn9 (Nat.not_lt_zero _)
        | succ n9 ih43 =>
          intro x xr_size_43 xr_variedCount_43 xr_fewest_43 xr_known_43 r2_43 r3_43 r4_43 w5_43 w6_43 w7_43 hn9 hx0 hx1 hv hzz hz_xr_size_43 hz_xr_variedCount_43 H locs ls hP hD hS hl
          refine lv_iload hx hb dX2_tryBits_43 (lv_at hl 0 rfl) ?_
          refine lv_if_lt (tgt := 117) hx hb dX2_tryBits_45 (by decide) (fun c45 => ?_) (fun c45 => ?_)
          ·
            have d45 : x.toInt < (0 : Int) := my_lt c45 rfl (by decide +kernel)
            exact my_retV hx hb hr hlocks hK hS (wl_k_X2_tryBits_4 cI cJ cK xr r1 r2 r3 r4 r5 w0 w1 w2 w3 w4 w5 w6 w7 (nI xr_size_43) (nI xr_variedCount_43) xr_fewest_43 xr_known_43 r2_43 r3_43 r4_43 wf4 w5_43 w6_43 w7_43) hP hD (⟨xr_size_43, xr_variedCount_43, xr_fewest_43, xr_known_43, r2_43, r3_43, r4_43, w5_43, w6_43, w7_43, rfl, (by first | assumption | omega | trivial | decide +kernel), (by first | assumption | omega | trivial | decide +kernel), (by first | assumption | omega | trivial | decide +kernel), (by first | assumption | omega | trivial | decide +kernel)⟩) dX2_tryBits_117
          ·
            have d45 : x.toInt ≥ (0 : Int) := my_nlt c45 rfl (by decide +kernel)
            refine lv_iload_n hx hb dX2_tryBits_48 rfl (lv_at hl 6 rfl) ?_
            refine lv_iconst (v := 1) hx hb dX2_tryBits_49 (by decide +kernel) ?_
            refine lv_iadd hx hb dX2_tryBits_50 ?_
            refine lv_topi (fun z_5 ez_5 => ?_)
            try have tz_5 : z_5.toInt = u9.toInt + (1 : Int) := by rw [ez_5]; exact my_addI rfl (by decide +kernel) (by omega) (by omega)
            refine lv_lload hx hb dX2_tryBits_51 (lv_at hl 2 rfl) ?_
            refine lv_bipush (v := 8) hx hb dX2_tryBits_53 (by decide +kernel) ?_
            refine lv_iload hx hb dX2_tryBits_55 (lv_at hl 0 rfl) ?_
            refine lv_imul hx hb dX2_tryBits_57 ?_
            refine lv_topi (fun z_6 ez_6 => ?_)
            try have tz_6 : z_6.toInt = (8 : Int) * x.toInt := by rw [ez_6]; exact my_mulI (by decide +kernel) rfl (by omega) (by omega)
            refine lv_lushr hx hb dX2_tryBits_58 rfl ?_
            refine lv_topl (fun z_7 ez_7 => ?_)
            refine lv_ldc2 (v := 255) hx hb hown (hts (.constantLong RX2 70 (255)) (by decide +kernel)) dX2_tryBits_59 ?_
            refine lv_land hx hb dX2_tryBits_62 ?_
            refine lv_topl (fun z_8 ez_8 => ?_)
            refine lv_l2i hx hb dX2_tryBits_63 rfl ?_
            refine lv_topi (fun z_9 ez_9 => ?_)
            refine lv_iadd hx hb dX2_tryBits_64 ?_
            refine lv_topi (fun z_10 ez_10 => ?_)
            try have tz_10 : z_10.toInt = z_5.toInt + z_9.toInt := by rw [ez_10]; exact my_addI rfl rfl (by omega) (by omega)
            refine lv_istore (lv' := [(8, .int z_10), (7, .int x), (6, .int z_4), (4, .long r_1), (0, .ref xr), (1, .int 4), (2, .int o9), (3, .int u9)]) hx hb dX2_tryBits_65 hl (by decide) rfl (fun ls hl => ?_)
            refine lv_iload_n hx hb dX2_tryBits_67 rfl (lv_at hl 6 rfl) ?_
            refine lv_iload hx hb dX2_tryBits_68 (lv_at hl 1 rfl) ?_
            refine lv_ishr hx hb dX2_tryBits_70 ?_
            refine lv_topi (fun z_11 ez_11 => ?_)
            refine lv_iconst (v := 1) hx hb dX2_tryBits_71 (by decide +kernel) ?_
            refine lv_iand hx hb dX2_tryBits_72 ?_
            refine lv_topi (fun z_12 ez_12 => ?_)
            have hbz_12 : 0 ≤ z_12.toInt ∧ z_12.toInt ≤ 1 := by rw [ez_12]; exact my_andR (by decide +kernel) (by decide +kernel)
            refine lv_if_eq (tgt := 111) hx hb dX2_tryBits_73 (by decide) (fun c73 => ?_) (fun c73 => ?_)
            ·
              have d73 : z_12.toInt = (0 : Int) := my_eq c73 rfl (by decide +kernel)
              obtain ⟨z_13, ez_13⟩ : ∃ y : Int32, y = x + (-1) := ⟨_, rfl⟩
              try have tz_13 : z_13.toInt = x.toInt + (-1) := by rw [ez_13]; exact my_addI rfl (by decide +kernel) (by omega) (by omega)
              refine lv_iinc (v := z_13) (lv' := [(7, .int z_13), (8, .int z_10), (6, .int z_4), (4, .long r_1), (0, .ref xr), (1, .int 4), (2, .int o9), (3, .int u9)]) hx hb dX2_tryBits_111 hl (k := 1) rfl (by rw [ez_13]; rfl) (by decide) rfl (fun ls hl => ?_)
              refine lv_goto (tgt := 43) hx hb dX2_tryBits_114 (by decide) ?_
              exact ih43  z_13 xr_size_43 xr_variedCount_43 xr_fewest_43 xr_known_43 r2_43 r3_43 r4_43 w5_43 w6_43 w7_43 (by omega) (by first | assumption | omega | decide +kernel) (by first | assumption | omega | decide +kernel) (by first | assumption | omega | decide +kernel) (by first | assumption | omega | decide +kernel) (by first | assumption | omega | decide +kernel) (by first | assumption | omega | decide +kernel) _ _ ls hP hD hS (lv_sub hl [0, 2, 3, 4, 5, 6, 7] rfl)
            ·
              have d73 : z_12.toInt ≠ (0 : Int) := my_ne c73 rfl (by decide +kernel)
              refine lv_iload hx hb dX2_tryBits_76 (lv_at hl 0 rfl) ?_
              refine lv_iload hx hb dX2_tryBits_78 (lv_at hl 2 rfl) ?_
              refine lv_iadd hx hb dX2_tryBits_80 ?_
              refine lv_topi (fun z_14 ez_14 => ?_)
              try have tz_14 : z_14.toInt = z_10.toInt + z_4.toInt := by rw [ez_14]; exact my_addI rfl rfl (by omega) (by omega)
              refine lv_aload_n hx hb dX2_tryBits_81 rfl (lv_at hl 4 rfl) ?_
              refine va_get (ci := 2) (v := .int xr_fewest_43) (C := RX2) (T := TX2) (N := 9) hx hb hts hi2 hown hK hP 0 rfl rfl 7 (by decide) fl37 (fun _ h9 => h9) rfl dX2_tryBits_82 ?_
              refine lv_icmp_ge (tgt := 111) hx hb dX2_tryBits_85 (by decide) (fun c85 => ?_) (fun c85 => ?_)
              ·
                have d85 : z_14.toInt ≥ xr_fewest_43.toInt := my_ge c85 rfl rfl
                obtain ⟨z_15, ez_15⟩ : ∃ y : Int32, y = x + (-1) := ⟨_, rfl⟩
                try have tz_15 : z_15.toInt = x.toInt + (-1) := by rw [ez_15]; exact my_addI rfl (by decide +kernel) (by omega) (by omega)
                refine lv_iinc (v := z_15) (lv' := [(7, .int z_15), (8, .int z_10), (6, .int z_4), (4, .long r_1), (0, .ref xr), (1, .int 4), (2, .int o9), (3, .int u9)]) hx hb dX2_tryBits_111 hl (k := 1) rfl (by rw [ez_15]; rfl) (by decide) rfl (fun ls hl => ?_)
                refine lv_goto (tgt := 43) hx hb dX2_tryBits_114 (by decide) ?_
                exact ih43  z_15 xr_size_43 xr_variedCount_43 xr_fewest_43 xr_known_43 r2_43 r3_43 r4_43 w5_43 w6_43 w7_43 (by omega) (by first | assumption | omega | decide +kernel) (by first | assumption | omega | decide +kernel) (by first | assumption | omega | decide +kernel) (by first | assumption | omega | decide +kernel) (by first | assumption | omega | decide +kernel) (by first | assumption | omega | decide +kernel) _ _ ls hP hD hS (lv_sub hl [0, 2, 3, 4, 5, 6, 7] rfl)
              ·
                have d85 : z_14.toInt < xr_fewest_43.toInt := my_nge c85 rfl rfl
                refine lv_aload_n hx hb dX2_tryBits_88 rfl (lv_at hl 4 rfl) ?_
                refine va_get (ci := 2) (v := .ref r3) (C := RX2) (T := TX2) (N := 9) hx hb hts hi2 hown hK hP 0 rfl rfl 2 (by decide) fl20 (fun _ h9 => h9) rfl dX2_tryBits_89 ?_
                refine lv_iload_n hx hb dX2_tryBits_92 rfl (lv_at hl 5 rfl) ?_
                refine lv_iload hx hb dX2_tryBits_93 (lv_at hl 1 rfl) ?_
                refine va_iast hx hb hK hP hD hS 3 0 rfl rfl (vp_in_nI (n := 4) (by omega) (by omega)) dX2_tryBits_95 (fun H locs hP hD hS => ?_)
                obtain ⟨g_16, eg_16⟩ : ∃ g : Nat → Int32, g = upd r3_43 4 x := ⟨_, rfl⟩
                have eU : upd r3_43 (4 : Int32).toNatClampNeg x = g_16 := by rw [eg_16, show (4 : Int32).toNatClampNeg = 4 from by decide +kernel]
                rw [eU] at hP hD
                have hP : va_P D vwCl (wl_k_X2_tryBits_4 cI cJ cK xr r1 r2 r3 r4 r5 w0 w1 w2 w3 w4 w5 w6 w7 (nI xr_size_43) (nI xr_variedCount_43) xr_fewest_43 xr_known_43 r2_43 g_16 r4_43 wf4 w5_43 w6_43 w7_43) H := hP
                have hD : va_D A (wl_k_X2_tryBits_4 cI cJ cK xr r1 r2 r3 r4 r5 w0 w1 w2 w3 w4 w5 w6 w7 (nI xr_size_43) (nI xr_variedCount_43) xr_fewest_43 xr_known_43 r2_43 g_16 r4_43 wf4 w5_43 w6_43 w7_43) := hD
                refine lv_aload_n hx hb dX2_tryBits_96 rfl (lv_at hl 4 rfl) ?_
                refine lv_iload_n hx hb dX2_tryBits_97 rfl (lv_at hl 5 rfl) ?_
                refine lv_iload_n hx hb dX2_tryBits_98 rfl (lv_at hl 6 rfl) ?_
                refine lv_iconst (v := 1) hx hb dX2_tryBits_99 (by decide +kernel) ?_
                refine lv_iload hx hb dX2_tryBits_100 (lv_at hl 1 rfl) ?_
                refine lv_ishl hx hb dX2_tryBits_102 ?_
                refine lv_topi (fun z_17 ez_17 => ?_)
                refine lv_iconst (v := (-1)) hx hb dX2_tryBits_103 (by decide +kernel) ?_
                refine lv_ixor hx hb dX2_tryBits_104 ?_
                refine lv_topi (fun z_18 ez_18 => ?_)
                refine lv_iand hx hb dX2_tryBits_105 ?_
                refine lv_topi (fun z_19 ez_19 => ?_)
                refine lv_iload hx hb dX2_tryBits_106 (lv_at hl 0 rfl) ?_
                refine my_goVS (wc := (wl_k_X2_takeBit_4 cI cJ cK xr r1 r2 r3 r4 r5 w0 w1 w2 w3 w4 w5 w6 w7 (nI xr_size_43) (nI xr_variedCount_43) xr_fewest_43 xr_known_43 r2_43 g_16 r4_43 wf4 w5_43 w6_43 w7_43)) hP hD hS hA [0, 1, 2, 3, 4, 5, 6, 7, 8] rfl [some 0, some 1, some 2, some 3, some 4, some 5, some 6, some 7, some 8] (by decide +kernel) (my_cV (As := [.int 4, .int z_19, .int z_10]) (rest := []) (ci := 2) (wc := (wl_k_X2_takeBit_4 cI cJ cK xr r1 r2 r3 r4 r5 w0 w1 w2 w3 w4 w5 w6 w7 (nI xr_size_43) (nI xr_variedCount_43) xr_fewest_43 xr_known_43 r2_43 g_16 r4_43 wf4 w5_43 w6_43 w7_43)) ⟨hx, hb, hml, hown, hts⟩ (cwV 3 hts gX2_tryBits_X2_takeBit rfl rfl rfl (by decide +kernel) ⟨Nat.le_of_ble_eq_true rfl, Nat.le_of_ble_eq_true rfl⟩) hN hK hP hD [0, 1, 2, 3, 4, 5, 6, 7, 8] rfl (by decide) rfl 0 rfl rfl rfl rfl hl.1 rfl (Nat.le_of_ble_eq_true rfl) dX2_tryBits_108 ⟨Nat.le_of_ble_eq_true rfl, Nat.le_of_ble_eq_true rfl⟩  ((k_X2_takeBit_4 l D cI cJ cK xr r1 r2 r3 r4 r5 w0 w1 w2 w3 w4 w5 w6 w7 xr_size_43 xr_variedCount_43 xr_fewest_43 xr_known_43 r2_43 g_16 r4_43 wf4 w5_43 w6_43 w7_43 z_19 z_10 (by first | assumption | omega | decide +kernel) (by first | assumption | omega | decide +kernel)) _)) (fun u H locs hp hPD hS => ?_)
                obtain ⟨rz_20, rv_21, rw_22, rk_23, ro_24, rt_25, rb_26, wf5_27, wf6_28, wf7_29, rfl, hhz_rz_30, hhz_rv_31, hv_32, hz_33⟩ := hp
                obtain ⟨hP, hD⟩ := hPD rfl
                have hP : va_P D vwCl (wl_k_X2_tryBits_4 cI cJ cK xr r1 r2 r3 r4 r5 w0 w1 w2 w3 w4 w5 w6 w7 (nI rz_20) (nI rv_21) rw_22 rk_23 ro_24 rt_25 rb_26 wf4 wf5_27 wf6_28 wf7_29) H := hP
                have hD : va_D A (wl_k_X2_tryBits_4 cI cJ cK xr r1 r2 r3 r4 r5 w0 w1 w2 w3 w4 w5 w6 w7 (nI rz_20) (nI rv_21) rw_22 rk_23 ro_24 rt_25 rb_26 wf4 wf5_27 wf6_28 wf7_29) := hD
                obtain ⟨z_34, ez_34⟩ : ∃ y : Int32, y = x + (-1) := ⟨_, rfl⟩
                try have tz_34 : z_34.toInt = x.toInt + (-1) := by rw [ez_34]; exact my_addI rfl (by decide +kernel) (by omega) (by omega)
                refine lv_iinc (v := z_34) (lv' := [(7, .int z_34), (8, .int z_10), (6, .int z_4), (4, .long r_1), (0, .ref xr), (1, .int 4), (2, .int o9), (3, .int u9)]) hx hb dX2_tryBits_111 hl (k := 1) rfl (by rw [ez_34]; rfl) (by decide) rfl (fun ls hl => ?_)
                refine lv_goto (tgt := 43) hx hb dX2_tryBits_114 (by decide) ?_
                exact ih43  z_34 rz_20 rv_21 rw_22 rk_23 ro_24 rt_25 rb_26 wf5_27 wf6_28 wf7_29 (by omega) (by first | assumption | omega | decide +kernel) (by first | assumption | omega | decide +kernel) (by first | assumption | omega | decide +kernel) (by first | assumption | omega | decide +kernel) (by first | assumption | omega | decide +kernel) (by first | assumption | omega | decide +kernel) _ _ ls hP hD hS (lv_sub hl [0, 2, 3, 4, 5, 6, 7] rfl)
      have ec_35 : (7 : Int32).toInt = 7 := by decide +kernel
      exact loop43 ((((7 : Int32).toInt + 1).toNat) + 1) (7 : Int32) rz rv rw rk ro rt rb wf5 wf6 wf7 (Nat.lt_succ_self _) (by first | assumption | omega | decide +kernel) (by first | assumption | omega | decide +kernel) (by first | assumption | omega | decide +kernel) (by first | assumption | omega | decide +kernel) (by first | assumption | omega | decide +kernel) (by first | assumption | omega | decide +kernel) _ _ ls hP hD hS (lv_sub hl [0, 1, 2, 3, 4, 5, 6] rfl)
    ·
      exact absurd c11 (by decide +kernel)
abbrev wl_k_X2_takeBit_3 (cI cJ cK : ClassId) (xr : Nat) (r1 : Nat) (r2 : Nat) (r3 : Nat) (r4 : Nat) (r5 : Nat) (w0 : Nat) (w1 : Nat) (w2 : Nat) (w3 : Nat) (w4 : Nat) (w5 : Nat) (w6 : Nat) (w7 : Nat) (v0_ : Int32) (v1_ : Int32) (v2_ : Int32) (v3_ : Int32) (v4_ : Nat → Int64) (v5_ : Nat → Int32) (v6_ : Nat → Int32) (v7_ : Nat → Int64) (v8_ : Nat → Int64) (v9_ : Nat → Int64) (v10_ : Nat → Int64) (v11_ : Nat → Int64) : va_W := [(xr, .inr (2, [.ref r1, .ref r2, .ref r3, .ref r4, .ref r5, .int v0_, .int v1_, .int v2_, .int v3_])), (r1, .inl (cK, 8, .inr (.inr (.inr (.inr (fun j => ([w0, w1, w2, w3, w4, w5, w6, w7] : List Nat)[j]?)))))), (r2, .inl (cJ, 64, .inr (.inl v4_))), (r3, .inl (cI, 8, .inl v5_)), (r4, .inl (cI, 8, .inl v6_)), (w3, .inl (cJ, 64, .inr (.inl v7_))), (w4, .inl (cJ, 64, .inr (.inl v8_))), (w5, .inl (cJ, 64, .inr (.inl v9_))), (w6, .inl (cJ, 64, .inr (.inl v10_))), (w7, .inl (cJ, 64, .inr (.inl v11_)))]
set_option maxHeartbeats 4000000 in
set_option maxRecDepth 100000 in
theorem k_X2_takeBit_3 (l : Launch) (D : va_G) (cI cJ cK : ClassId) (xr : Nat) (r1 : Nat) (r2 : Nat) (r3 : Nat) (r4 : Nat) (r5 : Nat) (w0 : Nat) (w1 : Nat) (w2 : Nat) (w3 : Nat) (w4 : Nat) (w5 : Nat) (w6 : Nat) (w7 : Nat) (rz : Nat) (rv : Nat) (rw : Int32) (rk : Int32) (ro : Nat → Int64) (rt : Nat → Int32) (rb : Nat → Int32) (wf3 : Nat → Int64) (wf4 : Nat → Int64) (wf5 : Nat → Int64) (wf6 : Nat → Int64) (wf7 : Nat → Int64) (o9 : Int32) (u9 : Int32) (hz_rz : rz ≤ 64) (hz_rv : rv ≤ 8) : ctV l yX2_takeBit wsX2_takeBit ({ frames := 10, cells := 0, slots := 0, locals := 600 } : Room) D (tyIJ cI cJ cK) [.ref xr, .int 3, .int o9, .int u9] (wl_k_X2_takeBit_3 cI cJ cK xr r1 r2 r3 r4 r5 w0 w1 w2 w3 w4 w5 w6 w7 (nI rz) (nI rv) rw rk ro rt rb wf3 wf4 wf5 wf6 wf7) (fun (u : va_W) => ∃ (rz' : Nat) (rv' : Nat) (rw' : Int32) (rk' : Int32) (ro' : Nat → Int64) (rt' : Nat → Int32) (rb' : Nat → Int32) (wf4' : Nat → Int64) (wf5' : Nat → Int64) (wf6' : Nat → Int64) (wf7' : Nat → Int64), u = (wl_k_X2_takeBit_3 cI cJ cK xr r1 r2 r3 r4 r5 w0 w1 w2 w3 w4 w5 w6 w7 (nI rz') (nI rv') rw' rk' ro' rt' rb' wf3 wf4' wf5' wf6' wf7') ∧ rz' ≤ 64 ∧ rv' ≤ 8 ∧ rv' = rv ∧ rz' = rz) := by
  refine ctV.of (cc := cX2_takeBit) (maxL := 4) (ret := none) (by decide) rfl (Nat.le_of_ble_eq_true rfl) ?_
  intro p e s m below meth c ls A hx hb hr hts hown hml hlocks hname hA hK hN hP hD hS hl
  have hl : lv_has ls 4 [(0, .ref xr), (1, .int 3), (2, .int o9), (3, .int u9)] := hl
  have hown : s.vm.findClass RX2 = some m.cls := hown
  have hi2 : ∀ w ∈ u_ws RX2 TX2 9, w ∈ wsX2_takeBit := by decide +kernel
  have fl11 := hts (.fieldLink RX2 11 "PlaneColumn$OrderSearch" "lines" "[[J") (by decide +kernel)
  have fl20 := hts (.fieldLink RX2 20 "PlaneColumn$OrderSearch" "tried" "[I") (by decide +kernel)
  have fl24 := hts (.fieldLink RX2 24 "PlaneColumn$OrderSearch" "best" "[I") (by decide +kernel)
  have fl34 := hts (.fieldLink RX2 34 "PlaneColumn$OrderSearch" "variedCount" "I") (by decide +kernel)
  have fl37 := hts (.fieldLink RX2 37 "PlaneColumn$OrderSearch" "fewest" "I") (by decide +kernel)
  refine lv_iload_n hx hb dX2_takeBit_0 rfl (lv_at hl 2 rfl) ?_
  refine lv_if_ne (tgt := 29) hx hb dX2_takeBit_1 (by decide) (fun c1 => ?_) (fun c1 => ?_)
  ·
    have d1 : o9.toInt ≠ (0 : Int) := my_ne c1 rfl (by decide +kernel)
    refine lv_iload_n hx hb dX2_takeBit_29 rfl (lv_at hl 1 rfl) ?_
    refine lv_iconst (v := 1) hx hb dX2_takeBit_30 (by decide +kernel) ?_
    refine lv_iadd hx hb dX2_takeBit_31 ?_
    refine my_eqi (y := 4) (by decide +kernel) ?_
    refine lv_bipush (v := 8) hx hb dX2_takeBit_32 (by decide +kernel) ?_
    refine lv_icmp_ge (tgt := 70) hx hb dX2_takeBit_34 (by decide) (fun c34 => ?_) (fun c34 => ?_)
    ·
      exact absurd c34 (by decide +kernel)
    ·
      refine lv_aload_n hx hb dX2_takeBit_37 rfl (lv_at hl 0 rfl) ?_
      refine lv_aload_n hx hb dX2_takeBit_38 rfl (lv_at hl 0 rfl) ?_
      refine va_get (ci := 2) (v := .ref r1) (C := RX2) (T := TX2) (N := 9) hx hb hts hi2 hown hK hP 0 rfl rfl 0 (by decide) fl11 (fun _ h9 => h9) rfl dX2_takeBit_39 ?_
      refine lv_iload_n hx hb dX2_takeBit_42 rfl (lv_at hl 1 rfl) ?_
      refine my_aald hx hb hK hP 1 rfl (vp_in_nI (n := 3) (by omega) (by omega)) dX2_takeBit_43 ?_
      refine my_eqa (y := .ref w3) (by rw [show (3 : Int32).toNatClampNeg = 3 by decide +kernel]; rfl) ?_
      refine lv_aload_n hx hb dX2_takeBit_44 rfl (lv_at hl 0 rfl) ?_
      refine va_get (ci := 2) (v := .ref r1) (C := RX2) (T := TX2) (N := 9) hx hb hts hi2 hown hK hP 0 rfl rfl 0 (by decide) fl11 (fun _ h9 => h9) rfl dX2_takeBit_45 ?_
      refine lv_iload_n hx hb dX2_takeBit_48 rfl (lv_at hl 1 rfl) ?_
      refine lv_iconst (v := 1) hx hb dX2_takeBit_49 (by decide +kernel) ?_
      refine lv_iadd hx hb dX2_takeBit_50 ?_
      refine my_eqi (y := 4) (by decide +kernel) ?_
      refine my_aald hx hb hK hP 1 rfl (vp_in_nI (n := 4) (by omega) (by omega)) dX2_takeBit_51 ?_
      refine my_eqa (y := .ref w4) (by rw [show (4 : Int32).toNatClampNeg = 4 by decide +kernel]; rfl) ?_
      refine lv_aload_n hx hb dX2_takeBit_52 rfl (lv_at hl 0 rfl) ?_
      refine va_get (ci := 2) (v := .ref r3) (C := RX2) (T := TX2) (N := 9) hx hb hts hi2 hown hK hP 0 rfl rfl 2 (by decide) fl20 (fun _ h9 => h9) rfl dX2_takeBit_53 ?_
      refine lv_iload_n hx hb dX2_takeBit_56 rfl (lv_at hl 1 rfl) ?_
      refine va_iald hx hb hK hP 3 0 rfl rfl (vp_in_nI (n := 3) (by omega) (by omega)) dX2_takeBit_57 ?_
      refine my_eqi (y := rt 3) (congrArg rt (show (3 : Int32).toNatClampNeg = 3 by decide +kernel)) ?_
      refine my_goVS (wc := (wl_k_X2_part cI cJ cK xr r1 r2 r3 r4 r5 w3 w4 (nI rz) (nI rv) rw rk ro wf3 wf4)) hP hD hS hA [0, 2, 5, 6] rfl [some 0, none, some 1, none, none, some 2, some 3] (by decide +kernel) (my_cV (As := [.ref w3, .ref w4, .int (rt 3)]) (rest := []) (ci := 2) (wc := (wl_k_X2_part cI cJ cK xr r1 r2 r3 r4 r5 w3 w4 (nI rz) (nI rv) rw rk ro wf3 wf4)) ⟨hx, hb, hml, hown, hts⟩ (cwV 3 hts gX2_takeBit_X2_part rfl rfl rfl (by decide +kernel) ⟨Nat.le_of_ble_eq_true rfl, Nat.le_of_ble_eq_true rfl⟩) hN hK hP hD [0, 2, 5, 6] rfl (by decide) rfl 0 rfl rfl rfl rfl hl.1 rfl (Nat.le_of_ble_eq_true rfl) dX2_takeBit_58 ⟨Nat.le_of_ble_eq_true rfl, Nat.le_of_ble_eq_true rfl⟩  ((k_X2_part l D cI cJ cK xr r1 r2 r3 r4 r5 w3 w4 rz rv rw rk ro wf3 wf4 (rt 3) (by first | assumption | omega | decide +kernel) (by first | assumption | omega | decide +kernel)) _)) (fun u H locs hp hPD hS => ?_)
      obtain ⟨ro_2, wfb_3, rfl⟩ := hp
      obtain ⟨hP, hD⟩ := hPD rfl
      have hP : va_P D vwCl (wl_k_X2_takeBit_3 cI cJ cK xr r1 r2 r3 r4 r5 w0 w1 w2 w3 w4 w5 w6 w7 (nI rz) (nI rv) rw rk ro_2 rt rb wf3 wfb_3 wf5 wf6 wf7) H := hP
      have hD : va_D A (wl_k_X2_takeBit_3 cI cJ cK xr r1 r2 r3 r4 r5 w0 w1 w2 w3 w4 w5 w6 w7 (nI rz) (nI rv) rw rk ro_2 rt rb wf3 wfb_3 wf5 wf6 wf7) := hD
      refine lv_aload_n hx hb dX2_takeBit_61 rfl (lv_at hl 0 rfl) ?_
      refine lv_iload_n hx hb dX2_takeBit_62 rfl (lv_at hl 1 rfl) ?_
      refine lv_iconst (v := 1) hx hb dX2_takeBit_63 (by decide +kernel) ?_
      refine lv_iadd hx hb dX2_takeBit_64 ?_
      refine my_eqi (y := 4) (by decide +kernel) ?_
      refine lv_iload_n hx hb dX2_takeBit_65 rfl (lv_at hl 2 rfl) ?_
      refine lv_iload_n hx hb dX2_takeBit_66 rfl (lv_at hl 3 rfl) ?_
      refine my_goVS (wc := (wl_k_X2_tryBits_4 cI cJ cK xr r1 r2 r3 r4 r5 w0 w1 w2 w3 w4 w5 w6 w7 (nI rz) (nI rv) rw rk ro_2 rt rb wfb_3 wf5 wf6 wf7)) hP hD hS hA [0, 1, 2, 3, 4, 6, 7, 8, 9] rfl [some 0, some 1, some 2, some 3, some 4, none, some 5, some 6, some 7, some 8] (by decide +kernel) (my_cV (As := [.int 4, .int o9, .int u9]) (rest := []) (ci := 2) (wc := (wl_k_X2_tryBits_4 cI cJ cK xr r1 r2 r3 r4 r5 w0 w1 w2 w3 w4 w5 w6 w7 (nI rz) (nI rv) rw rk ro_2 rt rb wfb_3 wf5 wf6 wf7)) ⟨hx, hb, hml, hown, hts⟩ (cwV 3 hts gX2_takeBit_X2_tryBits rfl rfl rfl (by decide +kernel) ⟨Nat.le_of_ble_eq_true rfl, Nat.le_of_ble_eq_true rfl⟩) hN hK hP hD [0, 1, 2, 3, 4, 6, 7, 8, 9] rfl (by decide) rfl 0 rfl rfl rfl rfl hl.1 rfl (Nat.le_of_ble_eq_true rfl) dX2_takeBit_67 ⟨Nat.le_of_ble_eq_true rfl, Nat.le_of_ble_eq_true rfl⟩  ((k_X2_tryBits_4 l D cI cJ cK xr r1 r2 r3 r4 r5 w0 w1 w2 w3 w4 w5 w6 w7 rz rv rw rk ro_2 rt rb wfb_3 wf5 wf6 wf7 o9 u9 (by first | assumption | omega | decide +kernel) (by first | assumption | omega | decide +kernel)) _)) (fun u H locs hp hPD hS => ?_)
      obtain ⟨rz_4, rv_5, rw_6, rk_7, ro_8, rt_9, rb_10, wf5_11, wf6_12, wf7_13, rfl, hhz_rz_14, hhz_rv_15, hv_16, hz_17⟩ := hp
      obtain ⟨hP, hD⟩ := hPD rfl
      have hP : va_P D vwCl (wl_k_X2_takeBit_3 cI cJ cK xr r1 r2 r3 r4 r5 w0 w1 w2 w3 w4 w5 w6 w7 (nI rz_4) (nI rv_5) rw_6 rk_7 ro_8 rt_9 rb_10 wf3 wfb_3 wf5_11 wf6_12 wf7_13) H := hP
      have hD : va_D A (wl_k_X2_takeBit_3 cI cJ cK xr r1 r2 r3 r4 r5 w0 w1 w2 w3 w4 w5 w6 w7 (nI rz_4) (nI rv_5) rw_6 rk_7 ro_8 rt_9 rb_10 wf3 wfb_3 wf5_11 wf6_12 wf7_13) := hD
      exact my_retV hx hb hr hlocks hK hS (wl_k_X2_takeBit_3 cI cJ cK xr r1 r2 r3 r4 r5 w0 w1 w2 w3 w4 w5 w6 w7 (nI rz_4) (nI rv_5) rw_6 rk_7 ro_8 rt_9 rb_10 wf3 wfb_3 wf5_11 wf6_12 wf7_13) hP hD (⟨rz_4, rv_5, rw_6, rk_7, ro_8, rt_9, rb_10, wfb_3, wf5_11, wf6_12, wf7_13, rfl, (by first | assumption | omega | trivial | decide +kernel), (by first | assumption | omega | trivial | decide +kernel), (by first | assumption | omega | trivial | decide +kernel), (by first | assumption | omega | trivial | decide +kernel)⟩) dX2_takeBit_70
  ·
    have d1 : o9.toInt = (0 : Int) := my_eq c1 rfl (by decide +kernel)
    refine lv_aload_n hx hb dX2_takeBit_4 rfl (lv_at hl 0 rfl) ?_
    refine lv_iload_n hx hb dX2_takeBit_5 rfl (lv_at hl 3 rfl) ?_
    refine va_put (ci := 2) (v := .int u9) (ty := (.int)) (C := RX2) (T := TX2) (N := 9) hx hb hts hi2 tyX2 tyX2_ok nmX2 hown hK hP hD hS 0 rfl rfl 7 (by decide) fl37 (fun _ h9 => h9) rfl (by decide +kernel) rfl rfl (Nat.le_of_ble_eq_true rfl) dX2_takeBit_6 (fun H locs hP hD hS => ?_)
    have hP : va_P D vwCl (wl_k_X2_takeBit_3 cI cJ cK xr r1 r2 r3 r4 r5 w0 w1 w2 w3 w4 w5 w6 w7 (nI rz) (nI rv) u9 rk ro rt rb wf3 wf4 wf5 wf6 wf7) H := hP
    have hD : va_D A (wl_k_X2_takeBit_3 cI cJ cK xr r1 r2 r3 r4 r5 w0 w1 w2 w3 w4 w5 w6 w7 (nI rz) (nI rv) u9 rk ro rt rb wf3 wf4 wf5 wf6 wf7) := hD
    refine lv_aload_n hx hb dX2_takeBit_9 rfl (lv_at hl 0 rfl) ?_
    refine va_get (ci := 2) (v := .ref r3) (C := RX2) (T := TX2) (N := 9) hx hb hts hi2 hown hK hP 0 rfl rfl 2 (by decide) fl20 (fun _ h9 => h9) rfl dX2_takeBit_10 ?_
    refine lv_iconst (v := 0) hx hb dX2_takeBit_13 (by decide +kernel) ?_
    refine lv_aload_n hx hb dX2_takeBit_14 rfl (lv_at hl 0 rfl) ?_
    refine va_get (ci := 2) (v := .ref r4) (C := RX2) (T := TX2) (N := 9) hx hb hts hi2 hown hK hP 0 rfl rfl 3 (by decide) fl24 (fun _ h9 => h9) rfl dX2_takeBit_15 ?_
    refine lv_iconst (v := 0) hx hb dX2_takeBit_18 (by decide +kernel) ?_
    refine lv_aload_n hx hb dX2_takeBit_19 rfl (lv_at hl 0 rfl) ?_
    refine va_get (ci := 2) (v := .int (nI rv)) (C := RX2) (T := TX2) (N := 9) hx hb hts hi2 hown hK hP 0 rfl rfl 6 (by decide) fl34 (fun _ h9 => h9) rfl dX2_takeBit_20 ?_
    refine va_copyi hx hb (hml.trans hl.1.symm) hown (hts (.methodLink RX2 75 arraycopyName) (by decide +kernel)) (hts (.native arraycopyName) (by decide +kernel)) (hts (.static arraycopyName) (by decide +kernel)) (hts (.initialized "java/lang/System") (by decide +kernel)) hK hP hD hS 3 4 0 0 rfl rfl rfl rfl rfl (by decide +kernel) (by decide +kernel) (nI_nneg (by omega)) (by rw [show (0 : Int32).toNatClampNeg = 0 from (by decide +kernel), show (nI rv : Int32).toNatClampNeg = rv from (nI_clamp (by omega))]; omega) (by rw [show (0 : Int32).toNatClampNeg = 0 from (by decide +kernel), show (nI rv : Int32).toNatClampNeg = rv from (nI_clamp (by omega))]; omega) (fun _ _ => rfl) (Nat.le_of_ble_eq_true rfl) (Nat.le_of_ble_eq_true rfl) dX2_takeBit_23 (fun H locs hP hD hS => ?_)
    obtain ⟨g_18, eg_18⟩ : ∃ g : Nat → Int32, g = va_cpy rt rb 0 0 rv := ⟨_, rfl⟩
    have eU : va_cpy rt rb (0 : Int32).toNatClampNeg (0 : Int32).toNatClampNeg (nI rv : Int32).toNatClampNeg = g_18 := by rw [eg_18, show (0 : Int32).toNatClampNeg = 0 from (by decide +kernel), show (nI rv : Int32).toNatClampNeg = rv from (nI_clamp (by omega))]
    rw [eU] at hP hD
    have hP : va_P D vwCl (wl_k_X2_takeBit_3 cI cJ cK xr r1 r2 r3 r4 r5 w0 w1 w2 w3 w4 w5 w6 w7 (nI rz) (nI rv) u9 rk ro rt g_18 wf3 wf4 wf5 wf6 wf7) H := hP
    have hD : va_D A (wl_k_X2_takeBit_3 cI cJ cK xr r1 r2 r3 r4 r5 w0 w1 w2 w3 w4 w5 w6 w7 (nI rz) (nI rv) u9 rk ro rt g_18 wf3 wf4 wf5 wf6 wf7) := hD
    refine lv_goto (tgt := 70) hx hb dX2_takeBit_26 (by decide) ?_
    exact my_retV hx hb hr hlocks hK hS (wl_k_X2_takeBit_3 cI cJ cK xr r1 r2 r3 r4 r5 w0 w1 w2 w3 w4 w5 w6 w7 (nI rz) (nI rv) u9 rk ro rt g_18 wf3 wf4 wf5 wf6 wf7) hP hD (⟨rz, rv, u9, rk, ro, rt, g_18, wf4, wf5, wf6, wf7, rfl, (by first | assumption | omega | trivial | decide +kernel), (by first | assumption | omega | trivial | decide +kernel), (by first | assumption | omega | trivial | decide +kernel), (by first | assumption | omega | trivial | decide +kernel)⟩) dX2_takeBit_70
abbrev wl_k_X2_tryBits_3 (cI cJ cK : ClassId) (xr : Nat) (r1 : Nat) (r2 : Nat) (r3 : Nat) (r4 : Nat) (r5 : Nat) (w0 : Nat) (w1 : Nat) (w2 : Nat) (w3 : Nat) (w4 : Nat) (w5 : Nat) (w6 : Nat) (w7 : Nat) (v0_ : Int32) (v1_ : Int32) (v2_ : Int32) (v3_ : Int32) (v4_ : Nat → Int64) (v5_ : Nat → Int32) (v6_ : Nat → Int32) (v7_ : Nat → Int64) (v8_ : Nat → Int64) (v9_ : Nat → Int64) (v10_ : Nat → Int64) (v11_ : Nat → Int64) : va_W := [(xr, .inr (2, [.ref r1, .ref r2, .ref r3, .ref r4, .ref r5, .int v0_, .int v1_, .int v2_, .int v3_])), (r1, .inl (cK, 8, .inr (.inr (.inr (.inr (fun j => ([w0, w1, w2, w3, w4, w5, w6, w7] : List Nat)[j]?)))))), (r2, .inl (cJ, 64, .inr (.inl v4_))), (r3, .inl (cI, 8, .inl v5_)), (r4, .inl (cI, 8, .inl v6_)), (w3, .inl (cJ, 64, .inr (.inl v7_))), (w4, .inl (cJ, 64, .inr (.inl v8_))), (w5, .inl (cJ, 64, .inr (.inl v9_))), (w6, .inl (cJ, 64, .inr (.inl v10_))), (w7, .inl (cJ, 64, .inr (.inl v11_)))]
set_option maxHeartbeats 4000000 in
set_option maxRecDepth 100000 in
theorem k_X2_tryBits_3 (l : Launch) (D : va_G) (cI cJ cK : ClassId) (xr : Nat) (r1 : Nat) (r2 : Nat) (r3 : Nat) (r4 : Nat) (r5 : Nat) (w0 : Nat) (w1 : Nat) (w2 : Nat) (w3 : Nat) (w4 : Nat) (w5 : Nat) (w6 : Nat) (w7 : Nat) (rz : Nat) (rv : Nat) (rw : Int32) (rk : Int32) (ro : Nat → Int64) (rt : Nat → Int32) (rb : Nat → Int32) (wf3 : Nat → Int64) (wf4 : Nat → Int64) (wf5 : Nat → Int64) (wf6 : Nat → Int64) (wf7 : Nat → Int64) (o9 : Int32) (u9 : Int32) (hz_rz : rz ≤ 64) (hz_rv : rv ≤ 8) : ctV l yX2_tryBits wsX2_tryBits ({ frames := 11, cells := 0, slots := 0, locals := 660 } : Room) D (tyIJ cI cJ cK) [.ref xr, .int 3, .int o9, .int u9] (wl_k_X2_tryBits_3 cI cJ cK xr r1 r2 r3 r4 r5 w0 w1 w2 w3 w4 w5 w6 w7 (nI rz) (nI rv) rw rk ro rt rb wf3 wf4 wf5 wf6 wf7) (fun (u : va_W) => ∃ (rz' : Nat) (rv' : Nat) (rw' : Int32) (rk' : Int32) (ro' : Nat → Int64) (rt' : Nat → Int32) (rb' : Nat → Int32) (wf4' : Nat → Int64) (wf5' : Nat → Int64) (wf6' : Nat → Int64) (wf7' : Nat → Int64), u = (wl_k_X2_tryBits_3 cI cJ cK xr r1 r2 r3 r4 r5 w0 w1 w2 w3 w4 w5 w6 w7 (nI rz') (nI rv') rw' rk' ro' rt' rb' wf3 wf4' wf5' wf6' wf7') ∧ rz' ≤ 64 ∧ rv' ≤ 8 ∧ rv' = rv ∧ rz' = rz) := by
  refine ctV.of (cc := cX2_tryBits) (maxL := 9) (ret := none) (by decide) rfl (Nat.le_of_ble_eq_true rfl) ?_
  intro p e s m below meth c ls A hx hb hr hts hown hml hlocks hname hA hK hN hP hD hS hl
  have hl : lv_has ls 9 [(0, .ref xr), (1, .int 3), (2, .int o9), (3, .int u9)] := hl
  have hown : s.vm.findClass RX2 = some m.cls := hown
  have hi2 : ∀ w ∈ u_ws RX2 TX2 9, w ∈ wsX2_tryBits := by decide +kernel
  have fl11 := hts (.fieldLink RX2 11 "PlaneColumn$OrderSearch" "lines" "[[J") (by decide +kernel)
  have fl20 := hts (.fieldLink RX2 20 "PlaneColumn$OrderSearch" "tried" "[I") (by decide +kernel)
  have fl34 := hts (.fieldLink RX2 34 "PlaneColumn$OrderSearch" "variedCount" "I") (by decide +kernel)
  have fl37 := hts (.fieldLink RX2 37 "PlaneColumn$OrderSearch" "fewest" "I") (by decide +kernel)
  refine lv_iload_n hx hb dX2_tryBits_0 rfl (lv_at hl 1 rfl) ?_
  refine lv_aload_n hx hb dX2_tryBits_1 rfl (lv_at hl 0 rfl) ?_
  refine va_get (ci := 2) (v := .int (nI rv)) (C := RX2) (T := TX2) (N := 9) hx hb hts hi2 hown hK hP 0 rfl rfl 6 (by decide) fl34 (fun _ h9 => h9) rfl dX2_tryBits_2 ?_
  refine lv_icmp_ge (tgt := 14) hx hb dX2_tryBits_5 (by decide) (fun c5 => ?_) (fun c5 => ?_)
  ·
    have d5 : (3 : Int) ≥ ((rv : Nat) : Int) := my_ge c5 (by decide +kernel) (nI_toInt (by omega))
    exact my_retV hx hb hr hlocks hK hS (wl_k_X2_tryBits_3 cI cJ cK xr r1 r2 r3 r4 r5 w0 w1 w2 w3 w4 w5 w6 w7 (nI rz) (nI rv) rw rk ro rt rb wf3 wf4 wf5 wf6 wf7) hP hD (⟨rz, rv, rw, rk, ro, rt, rb, wf4, wf5, wf6, wf7, rfl, (by first | assumption | omega | trivial | decide +kernel), (by first | assumption | omega | trivial | decide +kernel), (by first | assumption | omega | trivial | decide +kernel), (by first | assumption | omega | trivial | decide +kernel)⟩) dX2_tryBits_14
  ·
    have d5 : (3 : Int) < ((rv : Nat) : Int) := my_nge c5 (by decide +kernel) (nI_toInt (by omega))
    refine lv_iload_n hx hb dX2_tryBits_8 rfl (lv_at hl 1 rfl) ?_
    refine lv_bipush (v := 8) hx hb dX2_tryBits_9 (by decide +kernel) ?_
    refine lv_icmp_lt (tgt := 15) hx hb dX2_tryBits_11 (by decide) (fun c11 => ?_) (fun c11 => ?_)
    ·
      refine lv_aload_n hx hb dX2_tryBits_15 rfl (lv_at hl 0 rfl) ?_
      refine lv_aload_n hx hb dX2_tryBits_16 rfl (lv_at hl 0 rfl) ?_
      refine va_get (ci := 2) (v := .ref r1) (C := RX2) (T := TX2) (N := 9) hx hb hts hi2 hown hK hP 0 rfl rfl 0 (by decide) fl11 (fun _ h9 => h9) rfl dX2_tryBits_17 ?_
      refine lv_iload_n hx hb dX2_tryBits_20 rfl (lv_at hl 1 rfl) ?_
      refine my_aald hx hb hK hP 1 rfl (vp_in_nI (n := 3) (by omega) (by omega)) dX2_tryBits_21 ?_
      refine my_eqa (y := .ref w3) (by rw [show (3 : Int32).toNatClampNeg = 3 by decide +kernel]; rfl) ?_
      refine my_gpL (my_pV (As := [.ref w3]) (rest := []) (ci := 2) ⟨hx, hb, hml, hown, hts⟩ (cwV 1 hts gX2_tryBits_X2_changesOf rfl rfl rfl (by decide +kernel) ⟨Nat.le_of_ble_eq_true rfl, Nat.le_of_ble_eq_true rfl⟩) hN hK hP [0, 5] rfl 0 rfl rfl rfl rfl hl.1 rfl (Nat.le_of_ble_eq_true rfl) dX2_tryBits_22 ⟨Nat.le_of_ble_eq_true rfl, Nat.le_of_ble_eq_true rfl⟩  (k_X2_changesOf l D cI cJ cK xr r1 r2 r3 r4 r5 w3 rz rv rw rk wf3 (by first | assumption | omega | decide +kernel) (by first | assumption | omega | decide +kernel))) (fun r hp => ?_)
      obtain _ := hp
      obtain ⟨r_1, rfl⟩ : ∃ z, z = r := ⟨_, rfl⟩
      refine lv_lstore (lv' := [(4, .long r_1), (0, .ref xr), (1, .int 3), (2, .int o9), (3, .int u9)]) hx hb dX2_tryBits_25 hl (by decide) rfl (fun ls hl => ?_)
      refine lv_iconst (v := 2) hx hb dX2_tryBits_27 (by decide +kernel) ?_
      refine lv_aload_n hx hb dX2_tryBits_28 rfl (lv_at hl 1 rfl) ?_
      refine va_get (ci := 2) (v := .int (nI rv)) (C := RX2) (T := TX2) (N := 9) hx hb hts hi2 hown hK hP 0 rfl rfl 6 (by decide) fl34 (fun _ h9 => h9) rfl dX2_tryBits_29 ?_
      refine lv_iconst (v := 1) hx hb dX2_tryBits_32 (by decide +kernel) ?_
      refine lv_isub hx hb dX2_tryBits_33 ?_
      refine lv_topi (fun z_2 ez_2 => ?_)
      try have tz_2 : z_2.toInt = ((rv : Nat) : Int) - (1 : Int) := by rw [ez_2]; exact my_subI (nI_toInt (by omega)) (by decide +kernel) (by omega) (by omega)
      refine lv_iload_n hx hb dX2_tryBits_34 rfl (lv_at hl 2 rfl) ?_
      refine lv_isub hx hb dX2_tryBits_35 ?_
      refine lv_topi (fun z_3 ez_3 => ?_)
      try have tz_3 : z_3.toInt = z_2.toInt - (3 : Int) := by rw [ez_3]; exact my_subI rfl (by decide +kernel) (by omega) (by omega)
      refine lv_imul hx hb dX2_tryBits_36 ?_
      refine lv_topi (fun z_4 ez_4 => ?_)
      try have tz_4 : z_4.toInt = (2 : Int) * z_3.toInt := by rw [ez_4]; exact my_mulI (by decide +kernel) rfl (by omega) (by omega)
      refine lv_istore (lv' := [(6, .int z_4), (4, .long r_1), (0, .ref xr), (1, .int 3), (2, .int o9), (3, .int u9)]) hx hb dX2_tryBits_37 hl (by decide) rfl (fun ls hl => ?_)
      refine lv_bipush (v := 7) hx hb dX2_tryBits_39 (by decide +kernel) ?_
      refine lv_istore (lv' := [(7, .int 7), (6, .int z_4), (4, .long r_1), (0, .ref xr), (1, .int 3), (2, .int o9), (3, .int u9)]) hx hb dX2_tryBits_41 hl (by decide) rfl (fun ls hl => ?_)
      have loop43 : ∀ (n9 : Nat) (x : Int32) (xr_size_43 : Nat) (xr_variedCount_43 : Nat) (xr_fewest_43 : Int32) (xr_known_43 : Int32) (r2_43 : Nat → Int64) (r3_43 : Nat → Int32) (r4_43 : Nat → Int32) (w4_43 : Nat → Int64) (w5_43 : Nat → Int64) (w6_43 : Nat → Int64) (w7_43 : Nat → Int64), (x.toInt + 1).toNat < n9 → (-1 ≤ x.toInt) → (x.toInt ≤ 7) → (xr_variedCount_43 = rv) → (xr_size_43 = rz) → (xr_size_43 ≤ 64) → (xr_variedCount_43 ≤ 8) → ∀ (H : Heap) (locs : List Loc) (ls : Array Slot), va_P D vwCl (wl_k_X2_tryBits_3 cI cJ cK xr r1 r2 r3 r4 r5 w0 w1 w2 w3 w4 w5 w6 w7 (nI xr_size_43) (nI xr_variedCount_43) xr_fewest_43 xr_known_43 r2_43 r3_43 r4_43 wf3 w4_43 w5_43 w6_43 w7_43) H → va_D A (wl_k_X2_tryBits_3 cI cJ cK xr r1 r2 r3 r4 r5 w0 w1 w2 w3 w4 w5 w6 w7 (nI xr_size_43) (nI xr_variedCount_43) xr_fewest_43 xr_known_43 r2_43 r3_43 r4_43 wf3 w4_43 w5_43 w6_43 w7_43) → va_S A s.heap H locs → lv_has ls 9 [(7, .int x), (6, .int z_4), (4, .long r_1), (0, .ref xr), (1, .int 3), (2, .int o9), (3, .int u9)] → W p l e ({ frames := 11, cells := 0, slots := 0, locals := 660 } : Room) s m [.ref xr, .int 3, .int o9, .int u9].toArray below meth c H locs 0 0 (MQ below (va_Qv (fun (u : va_W) => ∃ (rz' : Nat) (rv' : Nat) (rw' : Int32) (rk' : Int32) (ro' : Nat → Int64) (rt' : Nat → Int32) (rb' : Nat → Int32) (wf4' : Nat → Int64) (wf5' : Nat → Int64) (wf6' : Nat → Int64) (wf7' : Nat → Int64), u = (wl_k_X2_tryBits_3 cI cJ cK xr r1 r2 r3 r4 r5 w0 w1 w2 w3 w4 w5 w6 w7 (nI rz') (nI rv') rw' rk' ro' rt' rb' wf3 wf4' wf5' wf6' wf7') ∧ rz' ≤ 64 ∧ rv' ≤ 8 ∧ rv' = rv ∧ rz' = rz) (my_B D (tyIJ cI cJ cK) A) A) [.ref xr, .int 3, .int o9, .int u9].toArray s 0 0 A) (F0 m 43 ls []) := by
        intro n9
        induction n9 with
        | zero =>
          intro x xr_size_43 xr_variedCount_43 xr_fewest_43 xr_known_43 r2_43 r3_43 r4_43 w4_43 w5_43 w6_43 w7_43 hn9
          exact absurd hn9 (Nat.not_lt_zero _)
        | succ n9 ih43 =>
          intro x xr_size_43 xr_variedCount_43 xr_fewest_43 xr_known_43 r2_43 r3_43 r4_43 w4_43 w5_43 w6_43 w7_43 hn9 hx0 hx1 hv hzz hz_xr_size_43 hz_xr_variedCount_43 H locs ls hP hD hS hl
          refine lv_iload hx hb dX2_tryBits_43 (lv_at hl 0 rfl) ?_
          refine lv_if_lt (tgt := 117) hx hb dX2_tryBits_45 (by decide) (fun c45 => ?_) (fun c45 => ?_)
          ·
            have d45 : x.toInt < (0 : Int) := my_lt c45 rfl (by decide +kernel)
            exact my_retV hx hb hr hlocks hK hS (wl_k_X2_tryBits_3 cI cJ cK xr r1 r2 r3 r4 r5 w0 w1 w2 w3 w4 w5 w6 w7 (nI xr_size_43) (nI xr_variedCount_43) xr_fewest_43 xr_known_43 r2_43 r3_43 r4_43 wf3 w4_43 w5_43 w6_43 w7_43) hP hD (⟨xr_size_43, xr_variedCount_43, xr_fewest_43, xr_known_43, r2_43, r3_43, r4_43, w4_43, w5_43, w6_43, w7_43, rfl, (by first | assumption | omega | trivial | decide +kernel), (by first | assumption | omega | trivial | decide +kernel), (by first | assumption | omega | trivial | decide +kernel), (by first | assumption | omega | trivial | decide +kernel)⟩) dX2_tryBits_117
          ·
            have d45 : x.toInt ≥ (0 : Int) := my_nlt c45 rfl (by decide +kernel)
            refine lv_iload_n hx hb dX2_tryBits_48 rfl (lv_at hl 6 rfl) ?_
            refine lv_iconst (v := 1) hx hb dX2_tryBits_49 (by decide +kernel) ?_
            refine lv_iadd hx hb dX2_tryBits_50 ?_
            refine lv_topi (fun z_5 ez_5 => ?_)
            try have tz_5 : z_5.toInt = u9.toInt + (1 : Int) := by rw [ez_5]; exact my_addI rfl (by decide +kernel) (by omega) (by omega)
            refine lv_lload hx hb dX2_tryBits_51 (lv_at hl 2 rfl) ?_
            refine lv_bipush (v := 8) hx hb dX2_tryBits_53 (by decide +kernel) ?_
            refine lv_iload hx hb dX2_tryBits_55 (lv_at hl 0 rfl) ?_
            refine lv_imul hx hb dX2_tryBits_57 ?_
            refine lv_topi (fun z_6 ez_6 => ?_)
            try have tz_6 : z_6.toInt = (8 : Int) * x.toInt := by rw [ez_6]; exact my_mulI (by decide +kernel) rfl (by omega) (by omega)
            refine lv_lushr hx hb dX2_tryBits_58 rfl ?_
            refine lv_topl (fun z_7 ez_7 => ?_)
            refine lv_ldc2 (v := 255) hx hb hown (hts (.constantLong RX2 70 (255)) (by decide +kernel)) dX2_tryBits_59 ?_
            refine lv_land hx hb dX2_tryBits_62 ?_
            refine lv_topl (fun z_8 ez_8 => ?_)
            refine lv_l2i hx hb dX2_tryBits_63 rfl ?_
            refine lv_topi (fun z_9 ez_9 => ?_)
            refine lv_iadd hx hb dX2_tryBits_64 ?_
            refine lv_topi (fun z_10 ez_10 => ?_)
            try have tz_10 : z_10.toInt = z_5.toInt + z_9.toInt := by rw [ez_10]; exact my_addI rfl rfl (by omega) (by omega)
            refine lv_istore (lv' := [(8, .int z_10), (7, .int x), (6, .int z_4), (4, .long r_1), (0, .ref xr), (1, .int 3), (2, .int o9), (3, .int u9)]) hx hb dX2_tryBits_65 hl (by decide) rfl (fun ls hl => ?_)
            refine lv_iload_n hx hb dX2_tryBits_67 rfl (lv_at hl 6 rfl) ?_
            refine lv_iload hx hb dX2_tryBits_68 (lv_at hl 1 rfl) ?_
            refine lv_ishr hx hb dX2_tryBits_70 ?_
            refine lv_topi (fun z_11 ez_11 => ?_)
            refine lv_iconst (v := 1) hx hb dX2_tryBits_71 (by decide +kernel) ?_
            refine lv_iand hx hb dX2_tryBits_72 ?_
            refine lv_topi (fun z_12 ez_12 => ?_)
            have hbz_12 : 0 ≤ z_12.toInt ∧ z_12.toInt ≤ 1 := by rw [ez_12]; exact my_andR (by decide +kernel) (by decide +kernel)
            refine lv_if_eq (tgt := 111) hx hb dX2_tryBits_73 (by decide) (fun c73 => ?_) (fun c73 => ?_)
            ·
              have d73 : z_12.toInt = (0 : Int) := my_eq c73 rfl (by decide +kernel)
              obtain ⟨z_13, ez_13⟩ : ∃ y : Int32, y = x + (-1) := ⟨_, rfl⟩
              try have tz_13 : z_13.toInt = x.toInt + (-1) := by rw [ez_13]; exact my_addI rfl (by decide +kernel) (by omega) (by omega)
              refine lv_iinc (v := z_13) (lv' := [(7, .int z_13), (8, .int z_10), (6, .int z_4), (4, .long r_1), (0, .ref xr), (1, .int 3), (2, .int o9), (3, .int u9)]) hx hb dX2_tryBits_111 hl (k := 1) rfl (by rw [ez_13]; rfl) (by decide) rfl (fun ls hl => ?_)
              refine lv_goto (tgt := 43) hx hb dX2_tryBits_114 (by decide) ?_
              exact ih43  z_13 xr_size_43 xr_variedCount_43 xr_fewest_43 xr_known_43 r2_43 r3_43 r4_43 w4_43 w5_43 w6_43 w7_43 (by omega) (by first | assumption | omega | decide +kernel) (by first | assumption | omega | decide +kernel) (by first | assumption | omega | decide +kernel) (by first | assumption | omega | decide +kernel) (by first | assumption | omega | decide +kernel) (by first | assumption | omega | decide +kernel) _ _ ls hP hD hS (lv_sub hl [0, 2, 3, 4, 5, 6, 7] rfl)
            ·
              have d73 : z_12.toInt ≠ (0 : Int) := my_ne c73 rfl (by decide +kernel)
              refine lv_iload hx hb dX2_tryBits_76 (lv_at hl 0 rfl) ?_
              refine lv_iload hx hb dX2_tryBits_78 (lv_at hl 2 rfl) ?_
              refine lv_iadd hx hb dX2_tryBits_80 ?_
              refine lv_topi (fun z_14 ez_14 => ?_)
              try have tz_14 : z_14.toInt = z_10.toInt + z_4.toInt := by rw [ez_14]; exact my_addI rfl rfl (by omega) (by omega)
              refine lv_aload_n hx hb dX2_tryBits_81 rfl (lv_at hl 4 rfl) ?_
              refine va_get (ci := 2) (v := .int xr_fewest_43) (C := RX2) (T := TX2) (N := 9) hx hb hts hi2 hown hK hP 0 rfl rfl 7 (by decide) fl37 (fun _ h9 => h9) rfl dX2_tryBits_82 ?_
              refine lv_icmp_ge (tgt := 111) hx hb dX2_tryBits_85 (by decide) (fun c85 => ?_) (fun c85 => ?_)
              ·
                have d85 : z_14.toInt ≥ xr_fewest_43.toInt := my_ge c85 rfl rfl
                obtain ⟨z_15, ez_15⟩ : ∃ y : Int32, y = x + (-1) := ⟨_, rfl⟩
                try have tz_15 : z_15.toInt = x.toInt + (-1) := by rw [ez_15]; exact my_addI rfl (by decide +kernel) (by omega) (by omega)
                refine lv_iinc (v := z_15) (lv' := [(7, .int z_15), (8, .int z_10), (6, .int z_4), (4, .long r_1), (0, .ref xr), (1, .int 3), (2, .int o9), (3, .int u9)]) hx hb dX2_tryBits_111 hl (k := 1) rfl (by rw [ez_15]; rfl) (by decide) rfl (fun ls hl => ?_)
                refine lv_goto (tgt := 43) hx hb dX2_tryBits_114 (by decide) ?_
                exact ih43  z_15 xr_size_43 xr_variedCount_43 xr_fewest_43 xr_known_43 r2_43 r3_43 r4_43 w4_43 w5_43 w6_43 w7_43 (by omega) (by first | assumption | omega | decide +kernel) (by first | assumption | omega | decide +kernel) (by first | assumption | omega | decide +kernel) (by first | assumption | omega | decide +kernel) (by first | assumption | omega | decide +kernel) (by first | assumption | omega | decide +kernel) _ _ ls hP hD hS (lv_sub hl [0, 2, 3, 4, 5, 6, 7] rfl)
              ·
                have d85 : z_14.toInt < xr_fewest_43.toInt := my_nge c85 rfl rfl
                refine lv_aload_n hx hb dX2_tryBits_88 rfl (lv_at hl 4 rfl) ?_
                refine va_get (ci := 2) (v := .ref r3) (C := RX2) (T := TX2) (N := 9) hx hb hts hi2 hown hK hP 0 rfl rfl 2 (by decide) fl20 (fun _ h9 => h9) rfl dX2_tryBits_89 ?_
                refine lv_iload_n hx hb dX2_tryBits_92 rfl (lv_at hl 5 rfl) ?_
                refine lv_iload hx hb dX2_tryBits_93 (lv_at hl 1 rfl) ?_
                refine va_iast hx hb hK hP hD hS 3 0 rfl rfl (vp_in_nI (n := 3) (by omega) (by omega)) dX2_tryBits_95 (fun H locs hP hD hS => ?_)
                obtain ⟨g_16, eg_16⟩ : ∃ g : Nat → Int32, g = upd r3_43 3 x := ⟨_, rfl⟩
                have eU : upd r3_43 (3 : Int32).toNatClampNeg x = g_16 := by rw [eg_16, show (3 : Int32).toNatClampNeg = 3 from by decide +kernel]
                rw [eU] at hP hD
                have hP : va_P D vwCl (wl_k_X2_tryBits_3 cI cJ cK xr r1 r2 r3 r4 r5 w0 w1 w2 w3 w4 w5 w6 w7 (nI xr_size_43) (nI xr_variedCount_43) xr_fewest_43 xr_known_43 r2_43 g_16 r4_43 wf3 w4_43 w5_43 w6_43 w7_43) H := hP
                have hD : va_D A (wl_k_X2_tryBits_3 cI cJ cK xr r1 r2 r3 r4 r5 w0 w1 w2 w3 w4 w5 w6 w7 (nI xr_size_43) (nI xr_variedCount_43) xr_fewest_43 xr_known_43 r2_43 g_16 r4_43 wf3 w4_43 w5_43 w6_43 w7_43) := hD
                refine lv_aload_n hx hb dX2_tryBits_96 rfl (lv_at hl 4 rfl) ?_
                refine lv_iload_n hx hb dX2_tryBits_97 rfl (lv_at hl 5 rfl) ?_
                refine lv_iload_n hx hb dX2_tryBits_98 rfl (lv_at hl 6 rfl) ?_
                refine lv_iconst (v := 1) hx hb dX2_tryBits_99 (by decide +kernel) ?_
                refine lv_iload hx hb dX2_tryBits_100 (lv_at hl 1 rfl) ?_
                refine lv_ishl hx hb dX2_tryBits_102 ?_
                refine lv_topi (fun z_17 ez_17 => ?_)
                refine lv_iconst (v := (-1)) hx hb dX2_tryBits_103 (by decide +kernel) ?_
                refine lv_ixor hx hb dX2_tryBits_104 ?_
                refine lv_topi (fun z_18 ez_18 => ?_)
                refine lv_iand hx hb dX2_tryBits_105 ?_
                refine lv_topi (fun z_19 ez_19 => ?_)
                refine lv_iload hx hb dX2_tryBits_106 (lv_at hl 0 rfl) ?_
                refine my_goVS (wc := (wl_k_X2_takeBit_3 cI cJ cK xr r1 r2 r3 r4 r5 w0 w1 w2 w3 w4 w5 w6 w7 (nI xr_size_43) (nI xr_variedCount_43) xr_fewest_43 xr_known_43 r2_43 g_16 r4_43 wf3 w4_43 w5_43 w6_43 w7_43)) hP hD hS hA [0, 1, 2, 3, 4, 5, 6, 7, 8, 9] rfl [some 0, some 1, some 2, some 3, some 4, some 5, some 6, some 7, some 8, some 9] (by decide +kernel) (my_cV (As := [.int 3, .int z_19, .int z_10]) (rest := []) (ci := 2) (wc := (wl_k_X2_takeBit_3 cI cJ cK xr r1 r2 r3 r4 r5 w0 w1 w2 w3 w4 w5 w6 w7 (nI xr_size_43) (nI xr_variedCount_43) xr_fewest_43 xr_known_43 r2_43 g_16 r4_43 wf3 w4_43 w5_43 w6_43 w7_43)) ⟨hx, hb, hml, hown, hts⟩ (cwV 3 hts gX2_tryBits_X2_takeBit rfl rfl rfl (by decide +kernel) ⟨Nat.le_of_ble_eq_true rfl, Nat.le_of_ble_eq_true rfl⟩) hN hK hP hD [0, 1, 2, 3, 4, 5, 6, 7, 8, 9] rfl (by decide) rfl 0 rfl rfl rfl rfl hl.1 rfl (Nat.le_of_ble_eq_true rfl) dX2_tryBits_108 ⟨Nat.le_of_ble_eq_true rfl, Nat.le_of_ble_eq_true rfl⟩  ((k_X2_takeBit_3 l D cI cJ cK xr r1 r2 r3 r4 r5 w0 w1 w2 w3 w4 w5 w6 w7 xr_size_43 xr_variedCount_43 xr_fewest_43 xr_known_43 r2_43 g_16 r4_43 wf3 w4_43 w5_43 w6_43 w7_43 z_19 z_10 (by first | assumption | omega | decide +kernel) (by first | assumption | omega | decide +kernel)) _)) (fun u H locs hp hPD hS => ?_)
                obtain ⟨rz_20, rv_21, rw_22, rk_23, ro_24, rt_25, rb_26, wf4_27, wf5_28, wf6_29, wf7_30, rfl, hhz_rz_31, hhz_rv_32, hv_33, hz_34⟩ := hp
                obtain ⟨hP, hD⟩ := hPD rfl
                have hP : va_P D vwCl (wl_k_X2_tryBits_3 cI cJ cK xr r1 r2 r3 r4 r5 w0 w1 w2 w3 w4 w5 w6 w7 (nI rz_20) (nI rv_21) rw_22 rk_23 ro_24 rt_25 rb_26 wf3 wf4_27 wf5_28 wf6_29 wf7_30) H := hP
                have hD : va_D A (wl_k_X2_tryBits_3 cI cJ cK xr r1 r2 r3 r4 r5 w0 w1 w2 w3 w4 w5 w6 w7 (nI rz_20) (nI rv_21) rw_22 rk_23 ro_24 rt_25 rb_26 wf3 wf4_27 wf5_28 wf6_29 wf7_30) := hD
                obtain ⟨z_35, ez_35⟩ : ∃ y : Int32, y = x + (-1) := ⟨_, rfl⟩
                try have tz_35 : z_35.toInt = x.toInt + (-1) := by rw [ez_35]; exact my_addI rfl (by decide +kernel) (by omega) (by omega)
                refine lv_iinc (v := z_35) (lv' := [(7, .int z_35), (8, .int z_10), (6, .int z_4), (4, .long r_1), (0, .ref xr), (1, .int 3), (2, .int o9), (3, .int u9)]) hx hb dX2_tryBits_111 hl (k := 1) rfl (by rw [ez_35]; rfl) (by decide) rfl (fun ls hl => ?_)
                refine lv_goto (tgt := 43) hx hb dX2_tryBits_114 (by decide) ?_
                exact ih43  z_35 rz_20 rv_21 rw_22 rk_23 ro_24 rt_25 rb_26 wf4_27 wf5_28 wf6_29 wf7_30 (by omega) (by first | assumption | omega | decide +kernel) (by first | assumption | omega | decide +kernel) (by first | assumption | omega | decide +kernel) (by first | assumption | omega | decide +kernel) (by first | assumption | omega | decide +kernel) (by first | assumption | omega | decide +kernel) _ _ ls hP hD hS (lv_sub hl [0, 2, 3, 4, 5, 6, 7] rfl)
      have ec_36 : (7 : Int32).toInt = 7 := by decide +kernel
      exact loop43 ((((7 : Int32).toInt + 1).toNat) + 1) (7 : Int32) rz rv rw rk ro rt rb wf4 wf5 wf6 wf7 (Nat.lt_succ_self _) (by first | assumption | omega | decide +kernel) (by first | assumption | omega | decide +kernel) (by first | assumption | omega | decide +kernel) (by first | assumption | omega | decide +kernel) (by first | assumption | omega | decide +kernel) (by first | assumption | omega | decide +kernel) _ _ ls hP hD hS (lv_sub hl [0, 1, 2, 3, 4, 5, 6] rfl)
    ·
      exact absurd c11 (by decide +kernel)
abbrev wl_k_X2_takeBit_2 (cI cJ cK : ClassId) (xr : Nat) (r1 : Nat) (r2 : Nat) (r3 : Nat) (r4 : Nat) (r5 : Nat) (w0 : Nat) (w1 : Nat) (w2 : Nat) (w3 : Nat) (w4 : Nat) (w5 : Nat) (w6 : Nat) (w7 : Nat) (v0_ : Int32) (v1_ : Int32) (v2_ : Int32) (v3_ : Int32) (v4_ : Nat → Int64) (v5_ : Nat → Int32) (v6_ : Nat → Int32) (v7_ : Nat → Int64) (v8_ : Nat → Int64) (v9_ : Nat → Int64) (v10_ : Nat → Int64) (v11_ : Nat → Int64) (v12_ : Nat → Int64) : va_W := [(xr, .inr (2, [.ref r1, .ref r2, .ref r3, .ref r4, .ref r5, .int v0_, .int v1_, .int v2_, .int v3_])), (r1, .inl (cK, 8, .inr (.inr (.inr (.inr (fun j => ([w0, w1, w2, w3, w4, w5, w6, w7] : List Nat)[j]?)))))), (r2, .inl (cJ, 64, .inr (.inl v4_))), (r3, .inl (cI, 8, .inl v5_)), (r4, .inl (cI, 8, .inl v6_)), (w2, .inl (cJ, 64, .inr (.inl v7_))), (w3, .inl (cJ, 64, .inr (.inl v8_))), (w4, .inl (cJ, 64, .inr (.inl v9_))), (w5, .inl (cJ, 64, .inr (.inl v10_))), (w6, .inl (cJ, 64, .inr (.inl v11_))), (w7, .inl (cJ, 64, .inr (.inl v12_)))]
set_option maxHeartbeats 4000000 in
set_option maxRecDepth 100000 in
theorem k_X2_takeBit_2 (l : Launch) (D : va_G) (cI cJ cK : ClassId) (xr : Nat) (r1 : Nat) (r2 : Nat) (r3 : Nat) (r4 : Nat) (r5 : Nat) (w0 : Nat) (w1 : Nat) (w2 : Nat) (w3 : Nat) (w4 : Nat) (w5 : Nat) (w6 : Nat) (w7 : Nat) (rz : Nat) (rv : Nat) (rw : Int32) (rk : Int32) (ro : Nat → Int64) (rt : Nat → Int32) (rb : Nat → Int32) (wf2 : Nat → Int64) (wf3 : Nat → Int64) (wf4 : Nat → Int64) (wf5 : Nat → Int64) (wf6 : Nat → Int64) (wf7 : Nat → Int64) (o9 : Int32) (u9 : Int32) (hz_rz : rz ≤ 64) (hz_rv : rv ≤ 8) : ctV l yX2_takeBit wsX2_takeBit ({ frames := 12, cells := 0, slots := 0, locals := 720 } : Room) D (tyIJ cI cJ cK) [.ref xr, .int 2, .int o9, .int u9] (wl_k_X2_takeBit_2 cI cJ cK xr r1 r2 r3 r4 r5 w0 w1 w2 w3 w4 w5 w6 w7 (nI rz) (nI rv) rw rk ro rt rb wf2 wf3 wf4 wf5 wf6 wf7) (fun (u : va_W) => ∃ (rz' : Nat) (rv' : Nat) (rw' : Int32) (rk' : Int32) (ro' : Nat → Int64) (rt' : Nat → Int32) (rb' : Nat → Int32) (wf3' : Nat → Int64) (wf4' : Nat → Int64) (wf5' : Nat → Int64) (wf6' : Nat → Int64) (wf7' : Nat → Int64), u = (wl_k_X2_takeBit_2 cI cJ cK xr r1 r2 r3 r4 r5 w0 w1 w2 w3 w4 w5 w6 w7 (nI rz') (nI rv') rw' rk' ro' rt' rb' wf2 wf3' wf4' wf5' wf6' wf7') ∧ rz' ≤ 64 ∧ rv' ≤ 8 ∧ rv' = rv ∧ rz' = rz) := by
  refine ctV.of (cc := cX2_takeBit) (maxL := 4) (ret := none) (by decide) rfl (Nat.le_of_ble_eq_true rfl) ?_
  intro p e s m below meth c ls A hx hb hr hts hown hml hlocks hname hA hK hN hP hD hS hl
  have hl : lv_has ls 4 [(0, .ref xr), (1, .int 2), (2, .int o9), (3, .int u9)] := hl
  have hown : s.vm.findClass RX2 = some m.cls := hown
  have hi2 : ∀ w ∈ u_ws RX2 TX2 9, w ∈ wsX2_takeBit := by decide +kernel
  have fl11 := hts (.fieldLink RX2 11 "PlaneColumn$OrderSearch" "lines" "[[J") (by decide +kernel)
  have fl20 := hts (.fieldLink RX2 20 "PlaneColumn$OrderSearch" "tried" "[I") (by decide +kernel)
  have fl24 := hts (.fieldLink RX2 24 "PlaneColumn$OrderSearch" "best" "[I") (by decide +kernel)
  have fl34 := hts (.fieldLink RX2 34 "PlaneColumn$OrderSearch" "variedCount" "I") (by decide +kernel)
  have fl37 := hts (.fieldLink RX2 37 "PlaneColumn$OrderSearch" "fewest" "I") (by decide +kernel)
  refine lv_iload_n hx hb dX2_takeBit_0 rfl (lv_at hl 2 rfl) ?_
  refine lv_if_ne (tgt := 29) hx hb dX2_takeBit_1 (by decide) (fun c1 => ?_) (fun c1 => ?_)
  ·
    have d1 : o9.toInt ≠ (0 : Int) := my_ne c1 rfl (by decide +kernel)
    refine lv_iload_n hx hb dX2_takeBit_29 rfl (lv_at hl 1 rfl) ?_
    refine lv_iconst (v := 1) hx hb dX2_takeBit_30 (by decide +kernel) ?_
    refine lv_iadd hx hb dX2_takeBit_31 ?_
    refine my_eqi (y := 3) (by decide +kernel) ?_
    refine lv_bipush (v := 8) hx hb dX2_takeBit_32 (by decide +kernel) ?_
    refine lv_icmp_ge (tgt := 70) hx hb dX2_takeBit_34 (by decide) (fun c34 => ?_) (fun c34 => ?_)
    ·
      exact absurd c34 (by decide +kernel)
    ·
      refine lv_aload_n hx hb dX2_takeBit_37 rfl (lv_at hl 0 rfl) ?_
      refine lv_aload_n hx hb dX2_takeBit_38 rfl (lv_at hl 0 rfl) ?_
      refine va_get (ci := 2) (v := .ref r1) (C := RX2) (T := TX2) (N := 9) hx hb hts hi2 hown hK hP 0 rfl rfl 0 (by decide) fl11 (fun _ h9 => h9) rfl dX2_takeBit_39 ?_
      refine lv_iload_n hx hb dX2_takeBit_42 rfl (lv_at hl 1 rfl) ?_
      refine my_aald hx hb hK hP 1 rfl (vp_in_nI (n := 2) (by omega) (by omega)) dX2_takeBit_43 ?_
      refine my_eqa (y := .ref w2) (by rw [show (2 : Int32).toNatClampNeg = 2 by decide +kernel]; rfl) ?_
      refine lv_aload_n hx hb dX2_takeBit_44 rfl (lv_at hl 0 rfl) ?_
      refine va_get (ci := 2) (v := .ref r1) (C := RX2) (T := TX2) (N := 9) hx hb hts hi2 hown hK hP 0 rfl rfl 0 (by decide) fl11 (fun _ h9 => h9) rfl dX2_takeBit_45 ?_
      refine lv_iload_n hx hb dX2_takeBit_48 rfl (lv_at hl 1 rfl) ?_
      refine lv_iconst (v := 1) hx hb dX2_takeBit_49 (by decide +kernel) ?_
      refine lv_iadd hx hb dX2_takeBit_50 ?_
      refine my_eqi (y := 3) (by decide +kernel) ?_
      refine my_aald hx hb hK hP 1 rfl (vp_in_nI (n := 3) (by omega) (by omega)) dX2_takeBit_51 ?_
      refine my_eqa (y := .ref w3) (by rw [show (3 : Int32).toNatClampNeg = 3 by decide +kernel]; rfl) ?_
      refine lv_aload_n hx hb dX2_takeBit_52 rfl (lv_at hl 0 rfl) ?_
      refine va_get (ci := 2) (v := .ref r3) (C := RX2) (T := TX2) (N := 9) hx hb hts hi2 hown hK hP 0 rfl rfl 2 (by decide) fl20 (fun _ h9 => h9) rfl dX2_takeBit_53 ?_
      refine lv_iload_n hx hb dX2_takeBit_56 rfl (lv_at hl 1 rfl) ?_
      refine va_iald hx hb hK hP 3 0 rfl rfl (vp_in_nI (n := 2) (by omega) (by omega)) dX2_takeBit_57 ?_
      refine my_eqi (y := rt 2) (congrArg rt (show (2 : Int32).toNatClampNeg = 2 by decide +kernel)) ?_
      refine my_goVS (wc := (wl_k_X2_part cI cJ cK xr r1 r2 r3 r4 r5 w2 w3 (nI rz) (nI rv) rw rk ro wf2 wf3)) hP hD hS hA [0, 2, 5, 6] rfl [some 0, none, some 1, none, none, some 2, some 3] (by decide +kernel) (my_cV (As := [.ref w2, .ref w3, .int (rt 2)]) (rest := []) (ci := 2) (wc := (wl_k_X2_part cI cJ cK xr r1 r2 r3 r4 r5 w2 w3 (nI rz) (nI rv) rw rk ro wf2 wf3)) ⟨hx, hb, hml, hown, hts⟩ (cwV 3 hts gX2_takeBit_X2_part rfl rfl rfl (by decide +kernel) ⟨Nat.le_of_ble_eq_true rfl, Nat.le_of_ble_eq_true rfl⟩) hN hK hP hD [0, 2, 5, 6] rfl (by decide) rfl 0 rfl rfl rfl rfl hl.1 rfl (Nat.le_of_ble_eq_true rfl) dX2_takeBit_58 ⟨Nat.le_of_ble_eq_true rfl, Nat.le_of_ble_eq_true rfl⟩  ((k_X2_part l D cI cJ cK xr r1 r2 r3 r4 r5 w2 w3 rz rv rw rk ro wf2 wf3 (rt 2) (by first | assumption | omega | decide +kernel) (by first | assumption | omega | decide +kernel)) _)) (fun u H locs hp hPD hS => ?_)
      obtain ⟨ro_2, wfb_3, rfl⟩ := hp
      obtain ⟨hP, hD⟩ := hPD rfl
      have hP : va_P D vwCl (wl_k_X2_takeBit_2 cI cJ cK xr r1 r2 r3 r4 r5 w0 w1 w2 w3 w4 w5 w6 w7 (nI rz) (nI rv) rw rk ro_2 rt rb wf2 wfb_3 wf4 wf5 wf6 wf7) H := hP
      have hD : va_D A (wl_k_X2_takeBit_2 cI cJ cK xr r1 r2 r3 r4 r5 w0 w1 w2 w3 w4 w5 w6 w7 (nI rz) (nI rv) rw rk ro_2 rt rb wf2 wfb_3 wf4 wf5 wf6 wf7) := hD
      refine lv_aload_n hx hb dX2_takeBit_61 rfl (lv_at hl 0 rfl) ?_
      refine lv_iload_n hx hb dX2_takeBit_62 rfl (lv_at hl 1 rfl) ?_
      refine lv_iconst (v := 1) hx hb dX2_takeBit_63 (by decide +kernel) ?_
      refine lv_iadd hx hb dX2_takeBit_64 ?_
      refine my_eqi (y := 3) (by decide +kernel) ?_
      refine lv_iload_n hx hb dX2_takeBit_65 rfl (lv_at hl 2 rfl) ?_
      refine lv_iload_n hx hb dX2_takeBit_66 rfl (lv_at hl 3 rfl) ?_
      refine my_goVS (wc := (wl_k_X2_tryBits_3 cI cJ cK xr r1 r2 r3 r4 r5 w0 w1 w2 w3 w4 w5 w6 w7 (nI rz) (nI rv) rw rk ro_2 rt rb wfb_3 wf4 wf5 wf6 wf7)) hP hD hS hA [0, 1, 2, 3, 4, 6, 7, 8, 9, 10] rfl [some 0, some 1, some 2, some 3, some 4, none, some 5, some 6, some 7, some 8, some 9] (by decide +kernel) (my_cV (As := [.int 3, .int o9, .int u9]) (rest := []) (ci := 2) (wc := (wl_k_X2_tryBits_3 cI cJ cK xr r1 r2 r3 r4 r5 w0 w1 w2 w3 w4 w5 w6 w7 (nI rz) (nI rv) rw rk ro_2 rt rb wfb_3 wf4 wf5 wf6 wf7)) ⟨hx, hb, hml, hown, hts⟩ (cwV 3 hts gX2_takeBit_X2_tryBits rfl rfl rfl (by decide +kernel) ⟨Nat.le_of_ble_eq_true rfl, Nat.le_of_ble_eq_true rfl⟩) hN hK hP hD [0, 1, 2, 3, 4, 6, 7, 8, 9, 10] rfl (by decide) rfl 0 rfl rfl rfl rfl hl.1 rfl (Nat.le_of_ble_eq_true rfl) dX2_takeBit_67 ⟨Nat.le_of_ble_eq_true rfl, Nat.le_of_ble_eq_true rfl⟩  ((k_X2_tryBits_3 l D cI cJ cK xr r1 r2 r3 r4 r5 w0 w1 w2 w3 w4 w5 w6 w7 rz rv rw rk ro_2 rt rb wfb_3 wf4 wf5 wf6 wf7 o9 u9 (by first | assumption | omega | decide +kernel) (by first | assumption | omega | decide +kernel)) _)) (fun u H locs hp hPD hS => ?_)
      obtain ⟨rz_4, rv_5, rw_6, rk_7, ro_8, rt_9, rb_10, wf4_11, wf5_12, wf6_13, wf7_14, rfl, hhz_rz_15, hhz_rv_16, hv_17, hz_18⟩ := hp
      obtain ⟨hP, hD⟩ := hPD rfl
      have hP : va_P D vwCl (wl_k_X2_takeBit_2 cI cJ cK xr r1 r2 r3 r4 r5 w0 w1 w2 w3 w4 w5 w6 w7 (nI rz_4) (nI rv_5) rw_6 rk_7 ro_8 rt_9 rb_10 wf2 wfb_3 wf4_11 wf5_12 wf6_13 wf7_14) H := hP
      have hD : va_D A (wl_k_X2_takeBit_2 cI cJ cK xr r1 r2 r3 r4 r5 w0 w1 w2 w3 w4 w5 w6 w7 (nI rz_4) (nI rv_5) rw_6 rk_7 ro_8 rt_9 rb_10 wf2 wfb_3 wf4_11 wf5_12 wf6_13 wf7_14) := hD
      exact my_retV hx hb hr hlocks hK hS (wl_k_X2_takeBit_2 cI cJ cK xr r1 r2 r3 r4 r5 w0 w1 w2 w3 w4 w5 w6 w7 (nI rz_4) (nI rv_5) rw_6 rk_7 ro_8 rt_9 rb_10 wf2 wfb_3 wf4_11 wf5_12 wf6_13 wf7_14) hP hD (⟨rz_4, rv_5, rw_6, rk_7, ro_8, rt_9, rb_10, wfb_3, wf4_11, wf5_12, wf6_13, wf7_14, rfl, (by first | assumption | omega | trivial | decide +kernel), (by first | assumption | omega | trivial | decide +kernel), (by first | assumption | omega | trivial | decide +kernel), (by first | assumption | omega | trivial | decide +kernel)⟩) dX2_takeBit_70
  ·
    have d1 : o9.toInt = (0 : Int) := my_eq c1 rfl (by decide +kernel)
    refine lv_aload_n hx hb dX2_takeBit_4 rfl (lv_at hl 0 rfl) ?_
    refine lv_iload_n hx hb dX2_takeBit_5 rfl (lv_at hl 3 rfl) ?_
    refine va_put (ci := 2) (v := .int u9) (ty := (.int)) (C := RX2) (T := TX2) (N := 9) hx hb hts hi2 tyX2 tyX2_ok nmX2 hown hK hP hD hS 0 rfl rfl 7 (by decide) fl37 (fun _ h9 => h9) rfl (by decide +kernel) rfl rfl (Nat.le_of_ble_eq_true rfl) dX2_takeBit_6 (fun H locs hP hD hS => ?_)
    have hP : va_P D vwCl (wl_k_X2_takeBit_2 cI cJ cK xr r1 r2 r3 r4 r5 w0 w1 w2 w3 w4 w5 w6 w7 (nI rz) (nI rv) u9 rk ro rt rb wf2 wf3 wf4 wf5 wf6 wf7) H := hP
    have hD : va_D A (wl_k_X2_takeBit_2 cI cJ cK xr r1 r2 r3 r4 r5 w0 w1 w2 w3 w4 w5 w6 w7 (nI rz) (nI rv) u9 rk ro rt rb wf2 wf3 wf4 wf5 wf6 wf7) := hD
    refine lv_aload_n hx hb dX2_takeBit_9 rfl (lv_at hl 0 rfl) ?_
    refine va_get (ci := 2) (v := .ref r3) (C := RX2) (T := TX2) (N := 9) hx hb hts hi2 hown hK hP 0 rfl rfl 2 (by decide) fl20 (fun _ h9 => h9) rfl dX2_takeBit_10 ?_
    refine lv_iconst (v := 0) hx hb dX2_takeBit_13 (by decide +kernel) ?_
    refine lv_aload_n hx hb dX2_takeBit_14 rfl (lv_at hl 0 rfl) ?_
    refine va_get (ci := 2) (v := .ref r4) (C := RX2) (T := TX2) (N := 9) hx hb hts hi2 hown hK hP 0 rfl rfl 3 (by decide) fl24 (fun _ h9 => h9) rfl dX2_takeBit_15 ?_
    refine lv_iconst (v := 0) hx hb dX2_takeBit_18 (by decide +kernel) ?_
    refine lv_aload_n hx hb dX2_takeBit_19 rfl (lv_at hl 0 rfl) ?_
    refine va_get (ci := 2) (v := .int (nI rv)) (C := RX2) (T := TX2) (N := 9) hx hb hts hi2 hown hK hP 0 rfl rfl 6 (by decide) fl34 (fun _ h9 => h9) rfl dX2_takeBit_20 ?_
    refine va_copyi hx hb (hml.trans hl.1.symm) hown (hts (.methodLink RX2 75 arraycopyName) (by decide +kernel)) (hts (.native arraycopyName) (by decide +kernel)) (hts (.static arraycopyName) (by decide +kernel)) (hts (.initialized "java/lang/System") (by decide +kernel)) hK hP hD hS 3 4 0 0 rfl rfl rfl rfl rfl (by decide +kernel) (by decide +kernel) (nI_nneg (by omega)) (by rw [show (0 : Int32).toNatClampNeg = 0 from (by decide +kernel), show (nI rv : Int32).toNatClampNeg = rv from (nI_clamp (by omega))]; omega) (by rw [show (0 : Int32).toNatClampNeg = 0 from (by decide +kernel), show (nI rv : Int32).toNatClampNeg = rv from (nI_clamp (by omega))]; omega) (fun _ _ => rfl) (Nat.le_of_ble_eq_true rfl) (Nat.le_of_ble_eq_true rfl) dX2_takeBit_23 (fun H locs hP hD hS => ?_)
    obtain ⟨g_19, eg_19⟩ : ∃ g : Nat → Int32, g = va_cpy rt rb 0 0 rv := ⟨_, rfl⟩
    have eU : va_cpy rt rb (0 : Int32).toNatClampNeg (0 : Int32).toNatClampNeg (nI rv : Int32).toNatClampNeg = g_19 := by rw [eg_19, show (0 : Int32).toNatClampNeg = 0 from (by decide +kernel), show (nI rv : Int32).toNatClampNeg = rv from (nI_clamp (by omega))]
    rw [eU] at hP hD
    have hP : va_P D vwCl (wl_k_X2_takeBit_2 cI cJ cK xr r1 r2 r3 r4 r5 w0 w1 w2 w3 w4 w5 w6 w7 (nI rz) (nI rv) u9 rk ro rt g_19 wf2 wf3 wf4 wf5 wf6 wf7) H := hP
    have hD : va_D A (wl_k_X2_takeBit_2 cI cJ cK xr r1 r2 r3 r4 r5 w0 w1 w2 w3 w4 w5 w6 w7 (nI rz) (nI rv) u9 rk ro rt g_19 wf2 wf3 wf4 wf5 wf6 wf7) := hD
    refine lv_goto (tgt := 70) hx hb dX2_takeBit_26 (by decide) ?_
    exact my_retV hx hb hr hlocks hK hS (wl_k_X2_takeBit_2 cI cJ cK xr r1 r2 r3 r4 r5 w0 w1 w2 w3 w4 w5 w6 w7 (nI rz) (nI rv) u9 rk ro rt g_19 wf2 wf3 wf4 wf5 wf6 wf7) hP hD (⟨rz, rv, u9, rk, ro, rt, g_19, wf3, wf4, wf5, wf6, wf7, rfl, (by first | assumption | omega | trivial | decide +kernel), (by first | assumption | omega | trivial | decide +kernel), (by first | assumption | omega | trivial | decide +kernel), (by first | assumption | omega | trivial | decide +kernel)⟩) dX2_takeBit_70
abbrev wl_k_X2_tryBits_2 (cI cJ cK : ClassId) (xr : Nat) (r1 : Nat) (r2 : Nat) (r3 : Nat) (r4 : Nat) (r5 : Nat) (w0 : Nat) (w1 : Nat) (w2 : Nat) (w3 : Nat) (w4 : Nat) (w5 : Nat) (w6 : Nat) (w7 : Nat) (v0_ : Int32) (v1_ : Int32) (v2_ : Int32) (v3_ : Int32) (v4_ : Nat → Int64) (v5_ : Nat → Int32) (v6_ : Nat → Int32) (v7_ : Nat → Int64) (v8_ : Nat → Int64) (v9_ : Nat → Int64) (v10_ : Nat → Int64) (v11_ : Nat → Int64) (v12_ : Nat → Int64) : va_W := [(xr, .inr (2, [.ref r1, .ref r2, .ref r3, .ref r4, .ref r5, .int v0_, .int v1_, .int v2_, .int v3_])), (r1, .inl (cK, 8, .inr (.inr (.inr (.inr (fun j => ([w0, w1, w2, w3, w4, w5, w6, w7] : List Nat)[j]?)))))), (r2, .inl (cJ, 64, .inr (.inl v4_))), (r3, .inl (cI, 8, .inl v5_)), (r4, .inl (cI, 8, .inl v6_)), (w2, .inl (cJ, 64, .inr (.inl v7_))), (w3, .inl (cJ, 64, .inr (.inl v8_))), (w4, .inl (cJ, 64, .inr (.inl v9_))), (w5, .inl (cJ, 64, .inr (.inl v10_))), (w6, .inl (cJ, 64, .inr (.inl v11_))), (w7, .inl (cJ, 64, .inr (.inl v12_)))]
set_option maxHeartbeats 4000000 in
set_option maxRecDepth 100000 in
theorem k_X2_tryBits_2 (l : Launch) (D : va_G) (cI cJ cK : ClassId) (xr : Nat) (r1 : Nat) (r2 : Nat) (r3 : Nat) (r4 : Nat) (r5 : Nat) (w0 : Nat) (w1 : Nat) (w2 : Nat) (w3 : Nat) (w4 : Nat) (w5 : Nat) (w6 : Nat) (w7 : Nat) (rz : Nat) (rv : Nat) (rw : Int32) (rk : Int32) (ro : Nat → Int64) (rt : Nat → Int32) (rb : Nat → Int32) (wf2 : Nat → Int64) (wf3 : Nat → Int64) (wf4 : Nat → Int64) (wf5 : Nat → Int64) (wf6 : Nat → Int64) (wf7 : Nat → Int64) (o9 : Int32) (u9 : Int32) (hz_rz : rz ≤ 64) (hz_rv : rv ≤ 8) : ctV l yX2_tryBits wsX2_tryBits ({ frames := 13, cells := 0, slots := 0, locals := 780 } : Room) D (tyIJ cI cJ cK) [.ref xr, .int 2, .int o9, .int u9] (wl_k_X2_tryBits_2 cI cJ cK xr r1 r2 r3 r4 r5 w0 w1 w2 w3 w4 w5 w6 w7 (nI rz) (nI rv) rw rk ro rt rb wf2 wf3 wf4 wf5 wf6 wf7) (fun (u : va_W) => ∃ (rz' : Nat) (rv' : Nat) (rw' : Int32) (rk' : Int32) (ro' : Nat → Int64) (rt' : Nat → Int32) (rb' : Nat → Int32) (wf3' : Nat → Int64) (wf4' : Nat → Int64) (wf5' : Nat → Int64) (wf6' : Nat → Int64) (wf7' : Nat → Int64), u = (wl_k_X2_tryBits_2 cI cJ cK xr r1 r2 r3 r4 r5 w0 w1 w2 w3 w4 w5 w6 w7 (nI rz') (nI rv') rw' rk' ro' rt' rb' wf2 wf3' wf4' wf5' wf6' wf7') ∧ rz' ≤ 64 ∧ rv' ≤ 8 ∧ rv' = rv ∧ rz' = rz) := by
  refine ctV.of (cc := cX2_tryBits) (maxL := 9) (ret := none) (by decide) rfl (Nat.le_of_ble_eq_true rfl) ?_
  intro p e s m below meth c ls A hx hb hr hts hown hml hlocks hname hA hK hN hP hD hS hl
  have hl : lv_has ls 9 [(0, .ref xr), (1, .int 2), (2, .int o9), (3, .int u9)] := hl
  have hown : s.vm.findClass RX2 = some m.cls := hown
  have hi2 : ∀ w ∈ u_ws RX2 TX2 9, w ∈ wsX2_tryBits := by decide +kernel
  have fl11 := hts (.fieldLink RX2 11 "PlaneColumn$OrderSearch" "lines" "[[J") (by decide +kernel)
  have fl20 := hts (.fieldLink RX2 20 "PlaneColumn$OrderSearch" "tried" "[I") (by decide +kernel)
  have fl34 := hts (.fieldLink RX2 34 "PlaneColumn$OrderSearch" "variedCount" "I") (by decide +kernel)
  have fl37 := hts (.fieldLink RX2 37 "PlaneColumn$OrderSearch" "fewest" "I") (by decide +kernel)
  refine lv_iload_n hx hb dX2_tryBits_0 rfl (lv_at hl 1 rfl) ?_
  refine lv_aload_n hx hb dX2_tryBits_1 rfl (lv_at hl 0 rfl) ?_
  refine va_get (ci := 2) (v := .int (nI rv)) (C := RX2) (T := TX2) (N := 9) hx hb hts hi2 hown hK hP 0 rfl rfl 6 (by decide) fl34 (fun _ h9 => h9) rfl dX2_tryBits_2 ?_
  refine lv_icmp_ge (tgt := 14) hx hb dX2_tryBits_5 (by decide) (fun c5 => ?_) (fun c5 => ?_)
  ·
    have d5 : (2 : Int) ≥ ((rv : Nat) : Int) := my_ge c5 (by decide +kernel) (nI_toInt (by omega))
    exact my_retV hx hb hr hlocks hK hS (wl_k_X2_tryBits_2 cI cJ cK xr r1 r2 r3 r4 r5 w0 w1 w2 w3 w4 w5 w6 w7 (nI rz) (nI rv) rw rk ro rt rb wf2 wf3 wf4 wf5 wf6 wf7) hP hD (⟨rz, rv, rw, rk, ro, rt, rb, wf3, wf4, wf5, wf6, wf7, rfl, (by first | assumption | omega | trivial | decide +kernel), (by first | assumption | omega | trivial | decide +kernel), (by first | assumption | omega | trivial | decide +kernel), (by first | assumption | omega | trivial | decide +kernel)⟩) dX2_tryBits_14
  ·
    have d5 : (2 : Int) < ((rv : Nat) : Int) := my_nge c5 (by decide +kernel) (nI_toInt (by omega))
    refine lv_iload_n hx hb dX2_tryBits_8 rfl (lv_at hl 1 rfl) ?_
    refine lv_bipush (v := 8) hx hb dX2_tryBits_9 (by decide +kernel) ?_
    refine lv_icmp_lt (tgt := 15) hx hb dX2_tryBits_11 (by decide) (fun c11 => ?_) (fun c11 => ?_)
    ·
      refine lv_aload_n hx hb dX2_tryBits_15 rfl (lv_at hl 0 rfl) ?_
      refine lv_aload_n hx hb dX2_tryBits_16 rfl (lv_at hl 0 rfl) ?_
      refine va_get (ci := 2) (v := .ref r1) (C := RX2) (T := TX2) (N := 9) hx hb hts hi2 hown hK hP 0 rfl rfl 0 (by decide) fl11 (fun _ h9 => h9) rfl dX2_tryBits_17 ?_
      refine lv_iload_n hx hb dX2_tryBits_20 rfl (lv_at hl 1 rfl) ?_
      refine my_aald hx hb hK hP 1 rfl (vp_in_nI (n := 2) (by omega) (by omega)) dX2_tryBits_21 ?_
      refine my_eqa (y := .ref w2) (by rw [show (2 : Int32).toNatClampNeg = 2 by decide +kernel]; rfl) ?_
      refine my_gpL (my_pV (As := [.ref w2]) (rest := []) (ci := 2) ⟨hx, hb, hml, hown, hts⟩ (cwV 1 hts gX2_tryBits_X2_changesOf rfl rfl rfl (by decide +kernel) ⟨Nat.le_of_ble_eq_true rfl, Nat.le_of_ble_eq_true rfl⟩) hN hK hP [0, 5] rfl 0 rfl rfl rfl rfl hl.1 rfl (Nat.le_of_ble_eq_true rfl) dX2_tryBits_22 ⟨Nat.le_of_ble_eq_true rfl, Nat.le_of_ble_eq_true rfl⟩  (k_X2_changesOf l D cI cJ cK xr r1 r2 r3 r4 r5 w2 rz rv rw rk wf2 (by first | assumption | omega | decide +kernel) (by first | assumption | omega | decide +kernel))) (fun r hp => ?_)
      obtain _ := hp
      obtain ⟨r_1, rfl⟩ : ∃ z, z = r := ⟨_, rfl⟩
      refine lv_lstore (lv' := [(4, .long r_1), (0, .ref xr), (1, .int 2), (2, .int o9), (3, .int u9)]) hx hb dX2_tryBits_25 hl (by decide) rfl (fun ls hl => ?_)
      refine lv_iconst (v := 2) hx hb dX2_tryBits_27 (by decide +kernel) ?_
      refine lv_aload_n hx hb dX2_tryBits_28 rfl (lv_at hl 1 rfl) ?_
      refine va_get (ci := 2) (v := .int (nI rv)) (C := RX2) (T := TX2) (N := 9) hx hb hts hi2 hown hK hP 0 rfl rfl 6 (by decide) fl34 (fun _ h9 => h9) rfl dX2_tryBits_29 ?_
      refine lv_iconst (v := 1) hx hb dX2_tryBits_32 (by decide +kernel) ?_
      refine lv_isub hx hb dX2_tryBits_33 ?_
      refine lv_topi (fun z_2 ez_2 => ?_)
      try have tz_2 : z_2.toInt = ((rv : Nat) : Int) - (1 : Int) := by rw [ez_2]; exact my_subI (nI_toInt (by omega)) (by decide +kernel) (by omega) (by omega)
      refine lv_iload_n hx hb dX2_tryBits_34 rfl (lv_at hl 2 rfl) ?_
      refine lv_isub hx hb dX2_tryBits_35 ?_
      refine lv_topi (fun z_3 ez_3 => ?_)
      try have tz_3 : z_3.toInt = z_2.toInt - (2 : Int) := by rw [ez_3]; exact my_subI rfl (by decide +kernel) (by omega) (by omega)
      refine lv_imul hx hb dX2_tryBits_36 ?_
      refine lv_topi (fun z_4 ez_4 => ?_)
      try have tz_4 : z_4.toInt = (2 : Int) * z_3.toInt := by rw [ez_4]; exact my_mulI (by decide +kernel) rfl (by omega) (by omega)
      refine lv_istore (lv' := [(6, .int z_4), (4, .long r_1), (0, .ref xr), (1, .int 2), (2, .int o9), (3, .int u9)]) hx hb dX2_tryBits_37 hl (by decide) rfl (fun ls hl => ?_)
      refine lv_bipush (v := 7) hx hb dX2_tryBits_39 (by decide +kernel) ?_
      refine lv_istore (lv' := [(7, .int 7), (6, .int z_4), (4, .long r_1), (0, .ref xr), (1, .int 2), (2, .int o9), (3, .int u9)]) hx hb dX2_tryBits_41 hl (by decide) rfl (fun ls hl => ?_)
      have loop43 : ∀ (n9 : Nat) (x : Int32) (xr_size_43 : Nat) (xr_variedCount_43 : Nat) (xr_fewest_43 : Int32) (xr_known_43 : Int32) (r2_43 : Nat → Int64) (r3_43 : Nat → Int32) (r4_43 : Nat → Int32) (w3_43 : Nat → Int64) (w4_43 : Nat → Int64) (w5_43 : Nat → Int64) (w6_43 : Nat → Int64) (w7_43 : Nat → Int64), (x.toInt + 1).toNat < n9 → (-1 ≤ x.toInt) → (x.toInt ≤ 7) → (xr_variedCount_43 = rv) → (xr_size_43 = rz) → (xr_size_43 ≤ 64) → (xr_variedCount_43 ≤ 8) → ∀ (H : Heap) (locs : List Loc) (ls : Array Slot), va_P D vwCl (wl_k_X2_tryBits_2 cI cJ cK xr r1 r2 r3 r4 r5 w0 w1 w2 w3 w4 w5 w6 w7 (nI xr_size_43) (nI xr_variedCount_43) xr_fewest_43 xr_known_43 r2_43 r3_43 r4_43 wf2 w3_43 w4_43 w5_43 w6_43 w7_43) H → va_D A (wl_k_X2_tryBits_2 cI cJ cK xr r1 r2 r3 r4 r5 w0 w1 w2 w3 w4 w5 w6 w7 (nI xr_size_43) (nI xr_variedCount_43) xr_fewest_43 xr_known_43 r2_43 r3_43 r4_43 wf2 w3_43 w4_43 w5_43 w6_43 w7_43) → va_S A s.heap H locs → lv_has ls 9 [(7, .int x), (6, .int z_4), (4, .long r_1), (0, .ref xr), (1, .int 2), (2, .int o9), (3, .int u9)] → W p l e ({ frames := 13, cells := 0, slots := 0, locals := 780 } : Room) s m [.ref xr, .int 2, .int o9, .int u9].toArray below meth c H locs 0 0 (MQ below (va_Qv (fun (u : va_W) => ∃ (rz' : Nat) (rv' : Nat) (rw' : Int32) (rk' : Int32) (ro' : Nat → Int64) (rt' : Nat → Int32) (rb' : Nat → Int32) (wf3' : Nat → Int64) (wf4' : Nat → Int64) (wf5' : Nat → Int64) (wf6' : Nat → Int64) (wf7' : Nat → Int64), u = (wl_k_X2_tryBits_2 cI cJ cK xr r1 r2 r3 r4 r5 w0 w1 w2 w3 w4 w5 w6 w7 (nI rz') (nI rv') rw' rk' ro' rt' rb' wf2 wf3' wf4' wf5' wf6' wf7') ∧ rz' ≤ 64 ∧ rv' ≤ 8 ∧ rv' = rv ∧ rz' = rz) (my_B D (tyIJ cI cJ cK) A) A) [.ref xr, .int 2, .int o9, .int u9].toArray s 0 0 A) (F0 m 43 ls []) := by
        intro n9
        induction n9 with
        | zero =>
          intro x xr_size_43 xr_variedCount_43 xr_fewest_43 xr_known_43 r2_43 r3_43 r4_43 w3_43 w4_43 w5_43 w6_43 w7_43 hn9
          exact absurd hn9 (Nat.not_lt_zero _)
        | succ n9 ih43 =>
          intro x xr_size_43 xr_variedCount_43 xr_fewest_43 xr_known_43 r2_43 r3_43 r4_43 w3_43 w4_43 w5_43 w6_43 w7_43 hn9 hx0 hx1 hv hzz hz_xr_size_43 hz_xr_variedCount_43 H locs ls hP hD hS hl
          refine lv_iload hx hb dX2_tryBits_43 (lv_at hl 0 rfl) ?_
          refine lv_if_lt (tgt := 117) hx hb dX2_tryBits_45 (by decide) (fun c45 => ?_) (fun c45 => ?_)
          ·
            have d45 : x.toInt < (0 : Int) := my_lt c45 rfl (by decide +kernel)
            exact my_retV hx hb hr hlocks hK hS (wl_k_X2_tryBits_2 cI cJ cK xr r1 r2 r3 r4 r5 w0 w1 w2 w3 w4 w5 w6 w7 (nI xr_size_43) (nI xr_variedCount_43) xr_fewest_43 xr_known_43 r2_43 r3_43 r4_43 wf2 w3_43 w4_43 w5_43 w6_43 w7_43) hP hD (⟨xr_size_43, xr_variedCount_43, xr_fewest_43, xr_known_43, r2_43, r3_43, r4_43, w3_43, w4_43, w5_43, w6_43, w7_43, rfl, (by first | assumption | omega | trivial | decide +kernel), (by first | assumption | omega | trivial | decide +kernel), (by first | assumption | omega | trivial | decide +kernel), (by first | assumption | omega | trivial | decide +kernel)⟩) dX2_tryBits_117
          ·
            have d45 : x.toInt ≥ (0 : Int) := my_nlt c45 rfl (by decide +kernel)
            refine lv_iload_n hx hb dX2_tryBits_48 rfl (lv_at hl 6 rfl) ?_
            refine lv_iconst (v := 1) hx hb dX2_tryBits_49 (by decide +kernel) ?_
            refine lv_iadd hx hb dX2_tryBits_50 ?_
            refine lv_topi (fun z_5 ez_5 => ?_)
            try have tz_5 : z_5.toInt = u9.toInt + (1 : Int) := by rw [ez_5]; exact my_addI rfl (by decide +kernel) (by omega) (by omega)
            refine lv_lload hx hb dX2_tryBits_51 (lv_at hl 2 rfl) ?_
            refine lv_bipush (v := 8) hx hb dX2_tryBits_53 (by decide +kernel) ?_
            refine lv_iload hx hb dX2_tryBits_55 (lv_at hl 0 rfl) ?_
            refine lv_imul hx hb dX2_tryBits_57 ?_
            refine lv_topi (fun z_6 ez_6 => ?_)
            try have tz_6 : z_6.toInt = (8 : Int) * x.toInt := by rw [ez_6]; exact my_mulI (by decide +kernel) rfl (by omega) (by omega)
            refine lv_lushr hx hb dX2_tryBits_58 rfl ?_
            refine lv_topl (fun z_7 ez_7 => ?_)
            refine lv_ldc2 (v := 255) hx hb hown (hts (.constantLong RX2 70 (255)) (by decide +kernel)) dX2_tryBits_59 ?_
            refine lv_land hx hb dX2_tryBits_62 ?_
            refine lv_topl (fun z_8 ez_8 => ?_)
            refine lv_l2i hx hb dX2_tryBits_63 rfl ?_
            refine lv_topi (fun z_9 ez_9 => ?_)
            refine lv_iadd hx hb dX2_tryBits_64 ?_
            refine lv_topi (fun z_10 ez_10 => ?_)
            try have tz_10 : z_10.toInt = z_5.toInt + z_9.toInt := by rw [ez_10]; exact my_addI rfl rfl (by omega) (by omega)
            refine lv_istore (lv' := [(8, .int z_10), (7, .int x), (6, .int z_4), (4, .long r_1), (0, .ref xr), (1, .int 2), (2, .int o9), (3, .int u9)]) hx hb dX2_tryBits_65 hl (by decide) rfl (fun ls hl => ?_)
            refine lv_iload_n hx hb dX2_tryBits_67 rfl (lv_at hl 6 rfl) ?_
            refine lv_iload hx hb dX2_tryBits_68 (lv_at hl 1 rfl) ?_
            refine lv_ishr hx hb dX2_tryBits_70 ?_
            refine lv_topi (fun z_11 ez_11 => ?_)
            refine lv_iconst (v := 1) hx hb dX2_tryBits_71 (by decide +kernel) ?_
            refine lv_iand hx hb dX2_tryBits_72 ?_
            refine lv_topi (fun z_12 ez_12 => ?_)
            have hbz_12 : 0 ≤ z_12.toInt ∧ z_12.toInt ≤ 1 := by rw [ez_12]; exact my_andR (by decide +kernel) (by decide +kernel)
            refine lv_if_eq (tgt := 111) hx hb dX2_tryBits_73 (by decide) (fun c73 => ?_) (fun c73 => ?_)
            ·
              have d73 : z_12.toInt = (0 : Int) := my_eq c73 rfl (by decide +kernel)
              obtain ⟨z_13, ez_13⟩ : ∃ y : Int32, y = x + (-1) := ⟨_, rfl⟩
              try have tz_13 : z_13.toInt = x.toInt + (-1) := by rw [ez_13]; exact my_addI rfl (by decide +kernel) (by omega) (by omega)
              refine lv_iinc (v := z_13) (lv' := [(7, .int z_13), (8, .int z_10), (6, .int z_4), (4, .long r_1), (0, .ref xr), (1, .int 2), (2, .int o9), (3, .int u9)]) hx hb dX2_tryBits_111 hl (k := 1) rfl (by rw [ez_13]; rfl) (by decide) rfl (fun ls hl => ?_)
              refine lv_goto (tgt := 43) hx hb dX2_tryBits_114 (by decide) ?_
              exact ih43  z_13 xr_size_43 xr_variedCount_43 xr_fewest_43 xr_known_43 r2_43 r3_43 r4_43 w3_43 w4_43 w5_43 w6_43 w7_43 (by omega) (by first | assumption | omega | decide +kernel) (by first | assumption | omega | decide +kernel) (by first | assumption | omega | decide +kernel) (by first | assumption | omega | decide +kernel) (by first | assumption | omega | decide +kernel) (by first | assumption | omega | decide +kernel) _ _ ls hP hD hS (lv_sub hl [0, 2, 3, 4, 5, 6, 7] rfl)
            ·
              have d73 : z_12.toInt ≠ (0 : Int) := my_ne c73 rfl (by decide +kernel)
              refine lv_iload hx hb dX2_tryBits_76 (lv_at hl 0 rfl) ?_
              refine lv_iload hx hb dX2_tryBits_78 (lv_at hl 2 rfl) ?_
              refine lv_iadd hx hb dX2_tryBits_80 ?_
              refine lv_topi (fun z_14 ez_14 => ?_)
              try have tz_14 : z_14.toInt = z_10.toInt + z_4.toInt := by rw [ez_14]; exact my_addI rfl rfl (by omega) (by omega)
              refine lv_aload_n hx hb dX2_tryBits_81 rfl (lv_at hl 4 rfl) ?_
              refine va_get (ci := 2) (v := .int xr_fewest_43) (C := RX2) (T := TX2) (N := 9) hx hb hts hi2 hown hK hP 0 rfl rfl 7 (by decide) fl37 (fun _ h9 => h9) rfl dX2_tryBits_82 ?_
              refine lv_icmp_ge (tgt := 111) hx hb dX2_tryBits_85 (by decide) (fun c85 => ?_) (fun c85 => ?_)
              ·
                have d85 : z_14.toInt ≥ xr_fewest_43.toInt := my_ge c85 rfl rfl
                obtain ⟨z_15, ez_15⟩ : ∃ y : Int32, y = x + (-1) := ⟨_, rfl⟩
                try have tz_15 : z_15.toInt = x.toInt + (-1) := by rw [ez_15]; exact my_addI rfl (by decide +kernel) (by omega) (by omega)
                refine lv_iinc (v := z_15) (lv' := [(7, .int z_15), (8, .int z_10), (6, .int z_4), (4, .long r_1), (0, .ref xr), (1, .int 2), (2, .int o9), (3, .int u9)]) hx hb dX2_tryBits_111 hl (k := 1) rfl (by rw [ez_15]; rfl) (by decide) rfl (fun ls hl => ?_)
                refine lv_goto (tgt := 43) hx hb dX2_tryBits_114 (by decide) ?_
                exact ih43  z_15 xr_size_43 xr_variedCount_43 xr_fewest_43 xr_known_43 r2_43 r3_43 r4_43 w3_43 w4_43 w5_43 w6_43 w7_43 (by omega) (by first | assumption | omega | decide +kernel) (by first | assumption | omega | decide +kernel) (by first | assumption | omega | decide +kernel) (by first | assumption | omega | decide +kernel) (by first | assumption | omega | decide +kernel) (by first | assumption | omega | decide +kernel) _ _ ls hP hD hS (lv_sub hl [0, 2, 3, 4, 5, 6, 7] rfl)
              ·
                have d85 : z_14.toInt < xr_fewest_43.toInt := my_nge c85 rfl rfl
                refine lv_aload_n hx hb dX2_tryBits_88 rfl (lv_at hl 4 rfl) ?_
                refine va_get (ci := 2) (v := .ref r3) (C := RX2) (T := TX2) (N := 9) hx hb hts hi2 hown hK hP 0 rfl rfl 2 (by decide) fl20 (fun _ h9 => h9) rfl dX2_tryBits_89 ?_
                refine lv_iload_n hx hb dX2_tryBits_92 rfl (lv_at hl 5 rfl) ?_
                refine lv_iload hx hb dX2_tryBits_93 (lv_at hl 1 rfl) ?_
                refine va_iast hx hb hK hP hD hS 3 0 rfl rfl (vp_in_nI (n := 2) (by omega) (by omega)) dX2_tryBits_95 (fun H locs hP hD hS => ?_)
                obtain ⟨g_16, eg_16⟩ : ∃ g : Nat → Int32, g = upd r3_43 2 x := ⟨_, rfl⟩
                have eU : upd r3_43 (2 : Int32).toNatClampNeg x = g_16 := by rw [eg_16, show (2 : Int32).toNatClampNeg = 2 from by decide +kernel]
                rw [eU] at hP hD
                have hP : va_P D vwCl (wl_k_X2_tryBits_2 cI cJ cK xr r1 r2 r3 r4 r5 w0 w1 w2 w3 w4 w5 w6 w7 (nI xr_size_43) (nI xr_variedCount_43) xr_fewest_43 xr_known_43 r2_43 g_16 r4_43 wf2 w3_43 w4_43 w5_43 w6_43 w7_43) H := hP
                have hD : va_D A (wl_k_X2_tryBits_2 cI cJ cK xr r1 r2 r3 r4 r5 w0 w1 w2 w3 w4 w5 w6 w7 (nI xr_size_43) (nI xr_variedCount_43) xr_fewest_43 xr_known_43 r2_43 g_16 r4_43 wf2 w3_43 w4_43 w5_43 w6_43 w7_43) := hD
                refine lv_aload_n hx hb dX2_tryBits_96 rfl (lv_at hl 4 rfl) ?_
                refine lv_iload_n hx hb dX2_tryBits_97 rfl (lv_at hl 5 rfl) ?_
                refine lv_iload_n hx hb dX2_tryBits_98 rfl (lv_at hl 6 rfl) ?_
                refine lv_iconst (v := 1) hx hb dX2_tryBits_99 (by decide +kernel) ?_
                refine lv_iload hx hb dX2_tryBits_100 (lv_at hl 1 rfl) ?_
                refine lv_ishl hx hb dX2_tryBits_102 ?_
                refine lv_topi (fun z_17 ez_17 => ?_)
                refine lv_iconst (v := (-1)) hx hb dX2_tryBits_103 (by decide +kernel) ?_
                refine lv_ixor hx hb dX2_tryBits_104 ?_
                refine lv_topi (fun z_18 ez_18 => ?_)
                refine lv_iand hx hb dX2_tryBits_105 ?_
                refine lv_topi (fun z_19 ez_19 => ?_)
                refine lv_iload hx hb dX2_tryBits_106 (lv_at hl 0 rfl) ?_
                refine my_goVS (wc := (wl_k_X2_takeBit_2 cI cJ cK xr r1 r2 r3 r4 r5 w0 w1 w2 w3 w4 w5 w6 w7 (nI xr_size_43) (nI xr_variedCount_43) xr_fewest_43 xr_known_43 r2_43 g_16 r4_43 wf2 w3_43 w4_43 w5_43 w6_43 w7_43)) hP hD hS hA [0, 1, 2, 3, 4, 5, 6, 7, 8, 9, 10] rfl [some 0, some 1, some 2, some 3, some 4, some 5, some 6, some 7, some 8, some 9, some 10] (by decide +kernel) (my_cV (As := [.int 2, .int z_19, .int z_10]) (rest := []) (ci := 2) (wc := (wl_k_X2_takeBit_2 cI cJ cK xr r1 r2 r3 r4 r5 w0 w1 w2 w3 w4 w5 w6 w7 (nI xr_size_43) (nI xr_variedCount_43) xr_fewest_43 xr_known_43 r2_43 g_16 r4_43 wf2 w3_43 w4_43 w5_43 w6_43 w7_43)) ⟨hx, hb, hml, hown, hts⟩ (cwV 3 hts gX2_tryBits_X2_takeBit rfl rfl rfl (by decide +kernel) ⟨Nat.le_of_ble_eq_true rfl, Nat.le_of_ble_eq_true rfl⟩) hN hK hP hD [0, 1, 2, 3, 4, 5, 6, 7, 8, 9, 10] rfl (by decide) rfl 0 rfl rfl rfl rfl hl.1 rfl (Nat.le_of_ble_eq_true rfl) dX2_tryBits_108 ⟨Nat.le_of_ble_eq_true rfl, Nat.le_of_ble_eq_true rfl⟩  ((k_X2_takeBit_2 l D cI cJ cK xr r1 r2 r3 r4 r5 w0 w1 w2 w3 w4 w5 w6 w7 xr_size_43 xr_variedCount_43 xr_fewest_43 xr_known_43 r2_43 g_16 r4_43 wf2 w3_43 w4_43 w5_43 w6_43 w7_43 z_19 z_10 (by first | assumption | omega | decide +kernel) (by first | assumption | omega | decide +kernel)) _)) (fun u H locs hp hPD hS => ?_)
                obtain ⟨rz_20, rv_21, rw_22, rk_23, ro_24, rt_25, rb_26, wf3_27, wf4_28, wf5_29, wf6_30, wf7_31, rfl, hhz_rz_32, hhz_rv_33, hv_34, hz_35⟩ := hp
                obtain ⟨hP, hD⟩ := hPD rfl
                have hP : va_P D vwCl (wl_k_X2_tryBits_2 cI cJ cK xr r1 r2 r3 r4 r5 w0 w1 w2 w3 w4 w5 w6 w7 (nI rz_20) (nI rv_21) rw_22 rk_23 ro_24 rt_25 rb_26 wf2 wf3_27 wf4_28 wf5_29 wf6_30 wf7_31) H := hP
                have hD : va_D A (wl_k_X2_tryBits_2 cI cJ cK xr r1 r2 r3 r4 r5 w0 w1 w2 w3 w4 w5 w6 w7 (nI rz_20) (nI rv_21) rw_22 rk_23 ro_24 rt_25 rb_26 wf2 wf3_27 wf4_28 wf5_29 wf6_30 wf7_31) := hD
                obtain ⟨z_36, ez_36⟩ : ∃ y : Int32, y = x + (-1) := ⟨_, rfl⟩
                try have tz_36 : z_36.toInt = x.toInt + (-1) := by rw [ez_36]; exact my_addI rfl (by decide +kernel) (by omega) (by omega)
                refine lv_iinc (v := z_36) (lv' := [(7, .int z_36), (8, .int z_10), (6, .int z_4), (4, .long r_1), (0, .ref xr), (1, .int 2), (2, .int o9), (3, .int u9)]) hx hb dX2_tryBits_111 hl (k := 1) rfl (by rw [ez_36]; rfl) (by decide) rfl (fun ls hl => ?_)
                refine lv_goto (tgt := 43) hx hb dX2_tryBits_114 (by decide) ?_
                exact ih43  z_36 rz_20 rv_21 rw_22 rk_23 ro_24 rt_25 rb_26 wf3_27 wf4_28 wf5_29 wf6_30 wf7_31 (by omega) (by first | assumption | omega | decide +kernel) (by first | assumption | omega | decide +kernel) (by first | assumption | omega | decide +kernel) (by first | assumption | omega | decide +kernel) (by first | assumption | omega | decide +kernel) (by first | assumption | omega | decide +kernel) _ _ ls hP hD hS (lv_sub hl [0, 2, 3, 4, 5, 6, 7] rfl)
      have ec_37 : (7 : Int32).toInt = 7 := by decide +kernel
      exact loop43 ((((7 : Int32).toInt + 1).toNat) + 1) (7 : Int32) rz rv rw rk ro rt rb wf3 wf4 wf5 wf6 wf7 (Nat.lt_succ_self _) (by first | assumption | omega | decide +kernel) (by first | assumption | omega | decide +kernel) (by first | assumption | omega | decide +kernel) (by first | assumption | omega | decide +kernel) (by first | assumption | omega | decide +kernel) (by first | assumption | omega | decide +kernel) _ _ ls hP hD hS (lv_sub hl [0, 1, 2, 3, 4, 5, 6] rfl)
    ·
      exact absurd c11 (by decide +kernel)
abbrev wl_k_X2_takeBit_1 (cI cJ cK : ClassId) (xr : Nat) (r1 : Nat) (r2 : Nat) (r3 : Nat) (r4 : Nat) (r5 : Nat) (w0 : Nat) (w1 : Nat) (w2 : Nat) (w3 : Nat) (w4 : Nat) (w5 : Nat) (w6 : Nat) (w7 : Nat) (v0_ : Int32) (v1_ : Int32) (v2_ : Int32) (v3_ : Int32) (v4_ : Nat → Int64) (v5_ : Nat → Int32) (v6_ : Nat → Int32) (v7_ : Nat → Int64) (v8_ : Nat → Int64) (v9_ : Nat → Int64) (v10_ : Nat → Int64) (v11_ : Nat → Int64) (v12_ : Nat → Int64) (v13_ : Nat → Int64) : va_W := [(xr, .inr (2, [.ref r1, .ref r2, .ref r3, .ref r4, .ref r5, .int v0_, .int v1_, .int v2_, .int v3_])), (r1, .inl (cK, 8, .inr (.inr (.inr (.inr (fun j => ([w0, w1, w2, w3, w4, w5, w6, w7] : List Nat)[j]?)))))), (r2, .inl (cJ, 64, .inr (.inl v4_))), (r3, .inl (cI, 8, .inl v5_)), (r4, .inl (cI, 8, .inl v6_)), (w1, .inl (cJ, 64, .inr (.inl v7_))), (w2, .inl (cJ, 64, .inr (.inl v8_))), (w3, .inl (cJ, 64, .inr (.inl v9_))), (w4, .inl (cJ, 64, .inr (.inl v10_))), (w5, .inl (cJ, 64, .inr (.inl v11_))), (w6, .inl (cJ, 64, .inr (.inl v12_))), (w7, .inl (cJ, 64, .inr (.inl v13_)))]
set_option maxHeartbeats 4000000 in
set_option maxRecDepth 100000 in
theorem k_X2_takeBit_1 (l : Launch) (D : va_G) (cI cJ cK : ClassId) (xr : Nat) (r1 : Nat) (r2 : Nat) (r3 : Nat) (r4 : Nat) (r5 : Nat) (w0 : Nat) (w1 : Nat) (w2 : Nat) (w3 : Nat) (w4 : Nat) (w5 : Nat) (w6 : Nat) (w7 : Nat) (rz : Nat) (rv : Nat) (rw : Int32) (rk : Int32) (ro : Nat → Int64) (rt : Nat → Int32) (rb : Nat → Int32) (wf1 : Nat → Int64) (wf2 : Nat → Int64) (wf3 : Nat → Int64) (wf4 : Nat → Int64) (wf5 : Nat → Int64) (wf6 : Nat → Int64) (wf7 : Nat → Int64) (o9 : Int32) (u9 : Int32) (hz_rz : rz ≤ 64) (hz_rv : rv ≤ 8) : ctV l yX2_takeBit wsX2_takeBit ({ frames := 14, cells := 0, slots := 0, locals := 840 } : Room) D (tyIJ cI cJ cK) [.ref xr, .int 1, .int o9, .int u9] (wl_k_X2_takeBit_1 cI cJ cK xr r1 r2 r3 r4 r5 w0 w1 w2 w3 w4 w5 w6 w7 (nI rz) (nI rv) rw rk ro rt rb wf1 wf2 wf3 wf4 wf5 wf6 wf7) (fun (u : va_W) => ∃ (rz' : Nat) (rv' : Nat) (rw' : Int32) (rk' : Int32) (ro' : Nat → Int64) (rt' : Nat → Int32) (rb' : Nat → Int32) (wf2' : Nat → Int64) (wf3' : Nat → Int64) (wf4' : Nat → Int64) (wf5' : Nat → Int64) (wf6' : Nat → Int64) (wf7' : Nat → Int64), u = (wl_k_X2_takeBit_1 cI cJ cK xr r1 r2 r3 r4 r5 w0 w1 w2 w3 w4 w5 w6 w7 (nI rz') (nI rv') rw' rk' ro' rt' rb' wf1 wf2' wf3' wf4' wf5' wf6' wf7') ∧ rz' ≤ 64 ∧ rv' ≤ 8 ∧ rv' = rv ∧ rz' = rz) := by
  refine ctV.of (cc := cX2_takeBit) (maxL := 4) (ret := none) (by decide) rfl (Nat.le_of_ble_eq_true rfl) ?_
  intro p e s m below meth c ls A hx hb hr hts hown hml hlocks hname hA hK hN hP hD hS hl
  have hl : lv_has ls 4 [(0, .ref xr), (1, .int 1), (2, .int o9), (3, .int u9)] := hl
  have hown : s.vm.findClass RX2 = some m.cls := hown
  have hi2 : ∀ w ∈ u_ws RX2 TX2 9, w ∈ wsX2_takeBit := by decide +kernel
  have fl11 := hts (.fieldLink RX2 11 "PlaneColumn$OrderSearch" "lines" "[[J") (by decide +kernel)
  have fl20 := hts (.fieldLink RX2 20 "PlaneColumn$OrderSearch" "tried" "[I") (by decide +kernel)
  have fl24 := hts (.fieldLink RX2 24 "PlaneColumn$OrderSearch" "best" "[I") (by decide +kernel)
  have fl34 := hts (.fieldLink RX2 34 "PlaneColumn$OrderSearch" "variedCount" "I") (by decide +kernel)
  have fl37 := hts (.fieldLink RX2 37 "PlaneColumn$OrderSearch" "fewest" "I") (by decide +kernel)
  refine lv_iload_n hx hb dX2_takeBit_0 rfl (lv_at hl 2 rfl) ?_
  refine lv_if_ne (tgt := 29) hx hb dX2_takeBit_1 (by decide) (fun c1 => ?_) (fun c1 => ?_)
  ·
    have d1 : o9.toInt ≠ (0 : Int) := my_ne c1 rfl (by decide +kernel)
    refine lv_iload_n hx hb dX2_takeBit_29 rfl (lv_at hl 1 rfl) ?_
    refine lv_iconst (v := 1) hx hb dX2_takeBit_30 (by decide +kernel) ?_
    refine lv_iadd hx hb dX2_takeBit_31 ?_
    refine my_eqi (y := 2) (by decide +kernel) ?_
    refine lv_bipush (v := 8) hx hb dX2_takeBit_32 (by decide +kernel) ?_
    refine lv_icmp_ge (tgt := 70) hx hb dX2_takeBit_34 (by decide) (fun c34 => ?_) (fun c34 => ?_)
    ·
      exact absurd c34 (by decide +kernel)
    ·
      refine lv_aload_n hx hb dX2_takeBit_37 rfl (lv_at hl 0 rfl) ?_
      refine lv_aload_n hx hb dX2_takeBit_38 rfl (lv_at hl 0 rfl) ?_
      refine va_get (ci := 2) (v := .ref r1) (C := RX2) (T := TX2) (N := 9) hx hb hts hi2 hown hK hP 0 rfl rfl 0 (by decide) fl11 (fun _ h9 => h9) rfl dX2_takeBit_39 ?_
      refine lv_iload_n hx hb dX2_takeBit_42 rfl (lv_at hl 1 rfl) ?_
      refine my_aald hx hb hK hP 1 rfl (vp_in_nI (n := 1) (by omega) (by omega)) dX2_takeBit_43 ?_
      refine my_eqa (y := .ref w1) (by rw [show (1 : Int32).toNatClampNeg = 1 by decide +kernel]; rfl) ?_
      refine lv_aload_n hx hb dX2_takeBit_44 rfl (lv_at hl 0 rfl) ?_
      refine va_get (ci := 2) (v := .ref r1) (C := RX2) (T := TX2) (N := 9) hx hb hts hi2 hown hK hP 0 rfl rfl 0 (by decide) fl11 (fun _ h9 => h9) rfl dX2_takeBit_45 ?_
      refine lv_iload_n hx hb dX2_takeBit_48 rfl (lv_at hl 1 rfl) ?_
      refine lv_iconst (v := 1) hx hb dX2_takeBit_49 (by decide +kernel) ?_
      refine lv_iadd hx hb dX2_takeBit_50 ?_
      refine my_eqi (y := 2) (by decide +kernel) ?_
      refine my_aald hx hb hK hP 1 rfl (vp_in_nI (n := 2) (by omega) (by omega)) dX2_takeBit_51 ?_
      refine my_eqa (y := .ref w2) (by rw [show (2 : Int32).toNatClampNeg = 2 by decide +kernel]; rfl) ?_
      refine lv_aload_n hx hb dX2_takeBit_52 rfl (lv_at hl 0 rfl) ?_
      refine va_get (ci := 2) (v := .ref r3) (C := RX2) (T := TX2) (N := 9) hx hb hts hi2 hown hK hP 0 rfl rfl 2 (by decide) fl20 (fun _ h9 => h9) rfl dX2_takeBit_53 ?_
      refine lv_iload_n hx hb dX2_takeBit_56 rfl (lv_at hl 1 rfl) ?_
      refine va_iald hx hb hK hP 3 0 rfl rfl (vp_in_nI (n := 1) (by omega) (by omega)) dX2_takeBit_57 ?_
      refine my_eqi (y := rt 1) (congrArg rt (show (1 : Int32).toNatClampNeg = 1 by decide +kernel)) ?_
      refine my_goVS (wc := (wl_k_X2_part cI cJ cK xr r1 r2 r3 r4 r5 w1 w2 (nI rz) (nI rv) rw rk ro wf1 wf2)) hP hD hS hA [0, 2, 5, 6] rfl [some 0, none, some 1, none, none, some 2, some 3] (by decide +kernel) (my_cV (As := [.ref w1, .ref w2, .int (rt 1)]) (rest := []) (ci := 2) (wc := (wl_k_X2_part cI cJ cK xr r1 r2 r3 r4 r5 w1 w2 (nI rz) (nI rv) rw rk ro wf1 wf2)) ⟨hx, hb, hml, hown, hts⟩ (cwV 3 hts gX2_takeBit_X2_part rfl rfl rfl (by decide +kernel) ⟨Nat.le_of_ble_eq_true rfl, Nat.le_of_ble_eq_true rfl⟩) hN hK hP hD [0, 2, 5, 6] rfl (by decide) rfl 0 rfl rfl rfl rfl hl.1 rfl (Nat.le_of_ble_eq_true rfl) dX2_takeBit_58 ⟨Nat.le_of_ble_eq_true rfl, Nat.le_of_ble_eq_true rfl⟩  ((k_X2_part l D cI cJ cK xr r1 r2 r3 r4 r5 w1 w2 rz rv rw rk ro wf1 wf2 (rt 1) (by first | assumption | omega | decide +kernel) (by first | assumption | omega | decide +kernel)) _)) (fun u H locs hp hPD hS => ?_)
      obtain ⟨ro_2, wfb_3, rfl⟩ := hp
      obtain ⟨hP, hD⟩ := hPD rfl
      have hP : va_P D vwCl (wl_k_X2_takeBit_1 cI cJ cK xr r1 r2 r3 r4 r5 w0 w1 w2 w3 w4 w5 w6 w7 (nI rz) (nI rv) rw rk ro_2 rt rb wf1 wfb_3 wf3 wf4 wf5 wf6 wf7) H := hP
      have hD : va_D A (wl_k_X2_takeBit_1 cI cJ cK xr r1 r2 r3 r4 r5 w0 w1 w2 w3 w4 w5 w6 w7 (nI rz) (nI rv) rw rk ro_2 rt rb wf1 wfb_3 wf3 wf4 wf5 wf6 wf7) := hD
      refine lv_aload_n hx hb dX2_takeBit_61 rfl (lv_at hl 0 rfl) ?_
      refine lv_iload_n hx hb dX2_takeBit_62 rfl (lv_at hl 1 rfl) ?_
      refine lv_iconst (v := 1) hx hb dX2_takeBit_63 (by decide +kernel) ?_
      refine lv_iadd hx hb dX2_takeBit_64 ?_
      refine my_eqi (y := 2) (by decide +kernel) ?_
      refine lv_iload_n hx hb dX2_takeBit_65 rfl (lv_at hl 2 rfl) ?_
      refine lv_iload_n hx hb dX2_takeBit_66 rfl (lv_at hl 3 rfl) ?_
      refine my_goVS (wc := (wl_k_X2_tryBits_2 cI cJ cK xr r1 r2 r3 r4 r5 w0 w1 w2 w3 w4 w5 w6 w7 (nI rz) (nI rv) rw rk ro_2 rt rb wfb_3 wf3 wf4 wf5 wf6 wf7)) hP hD hS hA [0, 1, 2, 3, 4, 6, 7, 8, 9, 10, 11] rfl [some 0, some 1, some 2, some 3, some 4, none, some 5, some 6, some 7, some 8, some 9, some 10] (by decide +kernel) (my_cV (As := [.int 2, .int o9, .int u9]) (rest := []) (ci := 2) (wc := (wl_k_X2_tryBits_2 cI cJ cK xr r1 r2 r3 r4 r5 w0 w1 w2 w3 w4 w5 w6 w7 (nI rz) (nI rv) rw rk ro_2 rt rb wfb_3 wf3 wf4 wf5 wf6 wf7)) ⟨hx, hb, hml, hown, hts⟩ (cwV 3 hts gX2_takeBit_X2_tryBits rfl rfl rfl (by decide +kernel) ⟨Nat.le_of_ble_eq_true rfl, Nat.le_of_ble_eq_true rfl⟩) hN hK hP hD [0, 1, 2, 3, 4, 6, 7, 8, 9, 10, 11] rfl (by decide) rfl 0 rfl rfl rfl rfl hl.1 rfl (Nat.le_of_ble_eq_true rfl) dX2_takeBit_67 ⟨Nat.le_of_ble_eq_true rfl, Nat.le_of_ble_eq_true rfl⟩  ((k_X2_tryBits_2 l D cI cJ cK xr r1 r2 r3 r4 r5 w0 w1 w2 w3 w4 w5 w6 w7 rz rv rw rk ro_2 rt rb wfb_3 wf3 wf4 wf5 wf6 wf7 o9 u9 (by first | assumption | omega | decide +kernel) (by first | assumption | omega | decide +kernel)) _)) (fun u H locs hp hPD hS => ?_)
      obtain ⟨rz_4, rv_5, rw_6, rk_7, ro_8, rt_9, rb_10, wf3_11, wf4_12, wf5_13, wf6_14, wf7_15, rfl, hhz_rz_16, hhz_rv_17, hv_18, hz_19⟩ := hp
      obtain ⟨hP, hD⟩ := hPD rfl
      have hP : va_P D vwCl (wl_k_X2_takeBit_1 cI cJ cK xr r1 r2 r3 r4 r5 w0 w1 w2 w3 w4 w5 w6 w7 (nI rz_4) (nI rv_5) rw_6 rk_7 ro_8 rt_9 rb_10 wf1 wfb_3 wf3_11 wf4_12 wf5_13 wf6_14 wf7_15) H := hP
      have hD : va_D A (wl_k_X2_takeBit_1 cI cJ cK xr r1 r2 r3 r4 r5 w0 w1 w2 w3 w4 w5 w6 w7 (nI rz_4) (nI rv_5) rw_6 rk_7 ro_8 rt_9 rb_10 wf1 wfb_3 wf3_11 wf4_12 wf5_13 wf6_14 wf7_15) := hD
      exact my_retV hx hb hr hlocks hK hS (wl_k_X2_takeBit_1 cI cJ cK xr r1 r2 r3 r4 r5 w0 w1 w2 w3 w4 w5 w6 w7 (nI rz_4) (nI rv_5) rw_6 rk_7 ro_8 rt_9 rb_10 wf1 wfb_3 wf3_11 wf4_12 wf5_13 wf6_14 wf7_15) hP hD (⟨rz_4, rv_5, rw_6, rk_7, ro_8, rt_9, rb_10, wfb_3, wf3_11, wf4_12, wf5_13, wf6_14, wf7_15, rfl, (by first | assumption | omega | trivial | decide +kernel), (by first | assumption | omega | trivial | decide +kernel), (by first | assumption | omega | trivial | decide +kernel), (by first | assumption | omega | trivial | decide +kernel)⟩) dX2_takeBit_70
  ·
    have d1 : o9.toInt = (0 : Int) := my_eq c1 rfl (by decide +kernel)
    refine lv_aload_n hx hb dX2_takeBit_4 rfl (lv_at hl 0 rfl) ?_
    refine lv_iload_n hx hb dX2_takeBit_5 rfl (lv_at hl 3 rfl) ?_
    refine va_put (ci := 2) (v := .int u9) (ty := (.int)) (C := RX2) (T := TX2) (N := 9) hx hb hts hi2 tyX2 tyX2_ok nmX2 hown hK hP hD hS 0 rfl rfl 7 (by decide) fl37 (fun _ h9 => h9) rfl (by decide +kernel) rfl rfl (Nat.le_of_ble_eq_true rfl) dX2_takeBit_6 (fun H locs hP hD hS => ?_)
    have hP : va_P D vwCl (wl_k_X2_takeBit_1 cI cJ cK xr r1 r2 r3 r4 r5 w0 w1 w2 w3 w4 w5 w6 w7 (nI rz) (nI rv) u9 rk ro rt rb wf1 wf2 wf3 wf4 wf5 wf6 wf7) H := hP
    have hD : va_D A (wl_k_X2_takeBit_1 cI cJ cK xr r1 r2 r3 r4 r5 w0 w1 w2 w3 w4 w5 w6 w7 (nI rz) (nI rv) u9 rk ro rt rb wf1 wf2 wf3 wf4 wf5 wf6 wf7) := hD
    refine lv_aload_n hx hb dX2_takeBit_9 rfl (lv_at hl 0 rfl) ?_
    refine va_get (ci := 2) (v := .ref r3) (C := RX2) (T := TX2) (N := 9) hx hb hts hi2 hown hK hP 0 rfl rfl 2 (by decide) fl20 (fun _ h9 => h9) rfl dX2_takeBit_10 ?_
    refine lv_iconst (v := 0) hx hb dX2_takeBit_13 (by decide +kernel) ?_
    refine lv_aload_n hx hb dX2_takeBit_14 rfl (lv_at hl 0 rfl) ?_
    refine va_get (ci := 2) (v := .ref r4) (C := RX2) (T := TX2) (N := 9) hx hb hts hi2 hown hK hP 0 rfl rfl 3 (by decide) fl24 (fun _ h9 => h9) rfl dX2_takeBit_15 ?_
    refine lv_iconst (v := 0) hx hb dX2_takeBit_18 (by decide +kernel) ?_
    refine lv_aload_n hx hb dX2_takeBit_19 rfl (lv_at hl 0 rfl) ?_
    refine va_get (ci := 2) (v := .int (nI rv)) (C := RX2) (T := TX2) (N := 9) hx hb hts hi2 hown hK hP 0 rfl rfl 6 (by decide) fl34 (fun _ h9 => h9) rfl dX2_takeBit_20 ?_
    refine va_copyi hx hb (hml.trans hl.1.symm) hown (hts (.methodLink RX2 75 arraycopyName) (by decide +kernel)) (hts (.native arraycopyName) (by decide +kernel)) (hts (.static arraycopyName) (by decide +kernel)) (hts (.initialized "java/lang/System") (by decide +kernel)) hK hP hD hS 3 4 0 0 rfl rfl rfl rfl rfl (by decide +kernel) (by decide +kernel) (nI_nneg (by omega)) (by rw [show (0 : Int32).toNatClampNeg = 0 from (by decide +kernel), show (nI rv : Int32).toNatClampNeg = rv from (nI_clamp (by omega))]; omega) (by rw [show (0 : Int32).toNatClampNeg = 0 from (by decide +kernel), show (nI rv : Int32).toNatClampNeg = rv from (nI_clamp (by omega))]; omega) (fun _ _ => rfl) (Nat.le_of_ble_eq_true rfl) (Nat.le_of_ble_eq_true rfl) dX2_takeBit_23 (fun H locs hP hD hS => ?_)
    obtain ⟨g_20, eg_20⟩ : ∃ g : Nat → Int32, g = va_cpy rt rb 0 0 rv := ⟨_, rfl⟩
    have eU : va_cpy rt rb (0 : Int32).toNatClampNeg (0 : Int32).toNatClampNeg (nI rv : Int32).toNatClampNeg = g_20 := by rw [eg_20, show (0 : Int32).toNatClampNeg = 0 from (by decide +kernel), show (nI rv : Int32).toNatClampNeg = rv from (nI_clamp (by omega))]
    rw [eU] at hP hD
    have hP : va_P D vwCl (wl_k_X2_takeBit_1 cI cJ cK xr r1 r2 r3 r4 r5 w0 w1 w2 w3 w4 w5 w6 w7 (nI rz) (nI rv) u9 rk ro rt g_20 wf1 wf2 wf3 wf4 wf5 wf6 wf7) H := hP
    have hD : va_D A (wl_k_X2_takeBit_1 cI cJ cK xr r1 r2 r3 r4 r5 w0 w1 w2 w3 w4 w5 w6 w7 (nI rz) (nI rv) u9 rk ro rt g_20 wf1 wf2 wf3 wf4 wf5 wf6 wf7) := hD
    refine lv_goto (tgt := 70) hx hb dX2_takeBit_26 (by decide) ?_
    exact my_retV hx hb hr hlocks hK hS (wl_k_X2_takeBit_1 cI cJ cK xr r1 r2 r3 r4 r5 w0 w1 w2 w3 w4 w5 w6 w7 (nI rz) (nI rv) u9 rk ro rt g_20 wf1 wf2 wf3 wf4 wf5 wf6 wf7) hP hD (⟨rz, rv, u9, rk, ro, rt, g_20, wf2, wf3, wf4, wf5, wf6, wf7, rfl, (by first | assumption | omega | trivial | decide +kernel), (by first | assumption | omega | trivial | decide +kernel), (by first | assumption | omega | trivial | decide +kernel), (by first | assumption | omega | trivial | decide +kernel)⟩) dX2_takeBit_70
abbrev wl_k_X2_tryBits_1 (cI cJ cK : ClassId) (xr : Nat) (r1 : Nat) (r2 : Nat) (r3 : Nat) (r4 : Nat) (r5 : Nat) (w0 : Nat) (w1 : Nat) (w2 : Nat) (w3 : Nat) (w4 : Nat) (w5 : Nat) (w6 : Nat) (w7 : Nat) (v0_ : Int32) (v1_ : Int32) (v2_ : Int32) (v3_ : Int32) (v4_ : Nat → Int64) (v5_ : Nat → Int32) (v6_ : Nat → Int32) (v7_ : Nat → Int64) (v8_ : Nat → Int64) (v9_ : Nat → Int64) (v10_ : Nat → Int64) (v11_ : Nat → Int64) (v12_ : Nat → Int64) (v13_ : Nat → Int64) : va_W := [(xr, .inr (2, [.ref r1, .ref r2, .ref r3, .ref r4, .ref r5, .int v0_, .int v1_, .int v2_, .int v3_])), (r1, .inl (cK, 8, .inr (.inr (.inr (.inr (fun j => ([w0, w1, w2, w3, w4, w5, w6, w7] : List Nat)[j]?)))))), (r2, .inl (cJ, 64, .inr (.inl v4_))), (r3, .inl (cI, 8, .inl v5_)), (r4, .inl (cI, 8, .inl v6_)), (w1, .inl (cJ, 64, .inr (.inl v7_))), (w2, .inl (cJ, 64, .inr (.inl v8_))), (w3, .inl (cJ, 64, .inr (.inl v9_))), (w4, .inl (cJ, 64, .inr (.inl v10_))), (w5, .inl (cJ, 64, .inr (.inl v11_))), (w6, .inl (cJ, 64, .inr (.inl v12_))), (w7, .inl (cJ, 64, .inr (.inl v13_)))]
set_option maxHeartbeats 4000000 in
set_option maxRecDepth 100000 in
theorem k_X2_tryBits_1 (l : Launch) (D : va_G) (cI cJ cK : ClassId) (xr : Nat) (r1 : Nat) (r2 : Nat) (r3 : Nat) (r4 : Nat) (r5 : Nat) (w0 : Nat) (w1 : Nat) (w2 : Nat) (w3 : Nat) (w4 : Nat) (w5 : Nat) (w6 : Nat) (w7 : Nat) (rz : Nat) (rv : Nat) (rw : Int32) (rk : Int32) (ro : Nat → Int64) (rt : Nat → Int32) (rb : Nat → Int32) (wf1 : Nat → Int64) (wf2 : Nat → Int64) (wf3 : Nat → Int64) (wf4 : Nat → Int64) (wf5 : Nat → Int64) (wf6 : Nat → Int64) (wf7 : Nat → Int64) (o9 : Int32) (u9 : Int32) (hz_rz : rz ≤ 64) (hz_rv : rv ≤ 8) : ctV l yX2_tryBits wsX2_tryBits ({ frames := 15, cells := 0, slots := 0, locals := 900 } : Room) D (tyIJ cI cJ cK) [.ref xr, .int 1, .int o9, .int u9] (wl_k_X2_tryBits_1 cI cJ cK xr r1 r2 r3 r4 r5 w0 w1 w2 w3 w4 w5 w6 w7 (nI rz) (nI rv) rw rk ro rt rb wf1 wf2 wf3 wf4 wf5 wf6 wf7) (fun (u : va_W) => ∃ (rz' : Nat) (rv' : Nat) (rw' : Int32) (rk' : Int32) (ro' : Nat → Int64) (rt' : Nat → Int32) (rb' : Nat → Int32) (wf2' : Nat → Int64) (wf3' : Nat → Int64) (wf4' : Nat → Int64) (wf5' : Nat → Int64) (wf6' : Nat → Int64) (wf7' : Nat → Int64), u = (wl_k_X2_tryBits_1 cI cJ cK xr r1 r2 r3 r4 r5 w0 w1 w2 w3 w4 w5 w6 w7 (nI rz') (nI rv') rw' rk' ro' rt' rb' wf1 wf2' wf3' wf4' wf5' wf6' wf7') ∧ rz' ≤ 64 ∧ rv' ≤ 8 ∧ rv' = rv ∧ rz' = rz) := by
  refine ctV.of (cc := cX2_tryBits) (maxL := 9) (ret := none) (by decide) rfl (Nat.le_of_ble_eq_true rfl) ?_
  intro p e s m below meth c ls A hx hb hr hts hown hml hlocks hname hA hK hN hP hD hS hl
  have hl : lv_has ls 9 [(0, .ref xr), (1, .int 1), (2, .int o9), (3, .int u9)] := hl
  have hown : s.vm.findClass RX2 = some m.cls := hown
  have hi2 : ∀ w ∈ u_ws RX2 TX2 9, w ∈ wsX2_tryBits := by decide +kernel
  have fl11 := hts (.fieldLink RX2 11 "PlaneColumn$OrderSearch" "lines" "[[J") (by decide +kernel)
  have fl20 := hts (.fieldLink RX2 20 "PlaneColumn$OrderSearch" "tried" "[I") (by decide +kernel)
  have fl34 := hts (.fieldLink RX2 34 "PlaneColumn$OrderSearch" "variedCount" "I") (by decide +kernel)
  have fl37 := hts (.fieldLink RX2 37 "PlaneColumn$OrderSearch" "fewest" "I") (by decide +kernel)
  refine lv_iload_n hx hb dX2_tryBits_0 rfl (lv_at hl 1 rfl) ?_
  refine lv_aload_n hx hb dX2_tryBits_1 rfl (lv_at hl 0 rfl) ?_
  refine va_get (ci := 2) (v := .int (nI rv)) (C := RX2) (T := TX2) (N := 9) hx hb hts hi2 hown hK hP 0 rfl rfl 6 (by decide) fl34 (fun _ h9 => h9) rfl dX2_tryBits_2 ?_
  refine lv_icmp_ge (tgt := 14) hx hb dX2_tryBits_5 (by decide) (fun c5 => ?_) (fun c5 => ?_)
  ·
    have d5 : (1 : Int) ≥ ((rv : Nat) : Int) := my_ge c5 (by decide +kernel) (nI_toInt (by omega))
    exact my_retV hx hb hr hlocks hK hS (wl_k_X2_tryBits_1 cI cJ cK xr r1 r2 r3 r4 r5 w0 w1 w2 w3 w4 w5 w6 w7 (nI rz) (nI rv) rw rk ro rt rb wf1 wf2 wf3 wf4 wf5 wf6 wf7) hP hD (⟨rz, rv, rw, rk, ro, rt, rb, wf2, wf3, wf4, wf5, wf6, wf7, rfl, (by first | assumption | omega | trivial | decide +kernel), (by first | assumption | omega | trivial | decide +kernel), (by first | assumption | omega | trivial | decide +kernel), (by first | assumption | omega | trivial | decide +kernel)⟩) dX2_tryBits_14
  ·
    have d5 : (1 : Int) < ((rv : Nat) : Int) := my_nge c5 (by decide +kernel) (nI_toInt (by omega))
    refine lv_iload_n hx hb dX2_tryBits_8 rfl (lv_at hl 1 rfl) ?_
    refine lv_bipush (v := 8) hx hb dX2_tryBits_9 (by decide +kernel) ?_
    refine lv_icmp_lt (tgt := 15) hx hb dX2_tryBits_11 (by decide) (fun c11 => ?_) (fun c11 => ?_)
    ·
      refine lv_aload_n hx hb dX2_tryBits_15 rfl (lv_at hl 0 rfl) ?_
      refine lv_aload_n hx hb dX2_tryBits_16 rfl (lv_at hl 0 rfl) ?_
      refine va_get (ci := 2) (v := .ref r1) (C := RX2) (T := TX2) (N := 9) hx hb hts hi2 hown hK hP 0 rfl rfl 0 (by decide) fl11 (fun _ h9 => h9) rfl dX2_tryBits_17 ?_
      refine lv_iload_n hx hb dX2_tryBits_20 rfl (lv_at hl 1 rfl) ?_
      refine my_aald hx hb hK hP 1 rfl (vp_in_nI (n := 1) (by omega) (by omega)) dX2_tryBits_21 ?_
      refine my_eqa (y := .ref w1) (by rw [show (1 : Int32).toNatClampNeg = 1 by decide +kernel]; rfl) ?_
      refine my_gpL (my_pV (As := [.ref w1]) (rest := []) (ci := 2) ⟨hx, hb, hml, hown, hts⟩ (cwV 1 hts gX2_tryBits_X2_changesOf rfl rfl rfl (by decide +kernel) ⟨Nat.le_of_ble_eq_true rfl, Nat.le_of_ble_eq_true rfl⟩) hN hK hP [0, 5] rfl 0 rfl rfl rfl rfl hl.1 rfl (Nat.le_of_ble_eq_true rfl) dX2_tryBits_22 ⟨Nat.le_of_ble_eq_true rfl, Nat.le_of_ble_eq_true rfl⟩  (k_X2_changesOf l D cI cJ cK xr r1 r2 r3 r4 r5 w1 rz rv rw rk wf1 (by first | assumption | omega | decide +kernel) (by first | assumption | omega | decide +kernel))) (fun r hp => ?_)
      obtain _ := hp
      obtain ⟨r_1, rfl⟩ : ∃ z, z = r := ⟨_, rfl⟩
      refine lv_lstore (lv' := [(4, .long r_1), (0, .ref xr), (1, .int 1), (2, .int o9), (3, .int u9)]) hx hb dX2_tryBits_25 hl (by decide) rfl (fun ls hl => ?_)
      refine lv_iconst (v := 2) hx hb dX2_tryBits_27 (by decide +kernel) ?_
      refine lv_aload_n hx hb dX2_tryBits_28 rfl (lv_at hl 1 rfl) ?_
      refine va_get (ci := 2) (v := .int (nI rv)) (C := RX2) (T := TX2) (N := 9) hx hb hts hi2 hown hK hP 0 rfl rfl 6 (by decide) fl34 (fun _ h9 => h9) rfl dX2_tryBits_29 ?_
      refine lv_iconst (v := 1) hx hb dX2_tryBits_32 (by decide +kernel) ?_
      refine lv_isub hx hb dX2_tryBits_33 ?_
      refine lv_topi (fun z_2 ez_2 => ?_)
      try have tz_2 : z_2.toInt = ((rv : Nat) : Int) - (1 : Int) := by rw [ez_2]; exact my_subI (nI_toInt (by omega)) (by decide +kernel) (by omega) (by omega)
      refine lv_iload_n hx hb dX2_tryBits_34 rfl (lv_at hl 2 rfl) ?_
      refine lv_isub hx hb dX2_tryBits_35 ?_
      refine lv_topi (fun z_3 ez_3 => ?_)
      try have tz_3 : z_3.toInt = z_2.toInt - (1 : Int) := by rw [ez_3]; exact my_subI rfl (by decide +kernel) (by omega) (by omega)
      refine lv_imul hx hb dX2_tryBits_36 ?_
      refine lv_topi (fun z_4 ez_4 => ?_)
      try have tz_4 : z_4.toInt = (2 : Int) * z_3.toInt := by rw [ez_4]; exact my_mulI (by decide +kernel) rfl (by omega) (by omega)
      refine lv_istore (lv' := [(6, .int z_4), (4, .long r_1), (0, .ref xr), (1, .int 1), (2, .int o9), (3, .int u9)]) hx hb dX2_tryBits_37 hl (by decide) rfl (fun ls hl => ?_)
      refine lv_bipush (v := 7) hx hb dX2_tryBits_39 (by decide +kernel) ?_
      refine lv_istore (lv' := [(7, .int 7), (6, .int z_4), (4, .long r_1), (0, .ref xr), (1, .int 1), (2, .int o9), (3, .int u9)]) hx hb dX2_tryBits_41 hl (by decide) rfl (fun ls hl => ?_)
      have loop43 : ∀ (n9 : Nat) (x : Int32) (xr_size_43 : Nat) (xr_variedCount_43 : Nat) (xr_fewest_43 : Int32) (xr_known_43 : Int32) (r2_43 : Nat → Int64) (r3_43 : Nat → Int32) (r4_43 : Nat → Int32) (w2_43 : Nat → Int64) (w3_43 : Nat → Int64) (w4_43 : Nat → Int64) (w5_43 : Nat → Int64) (w6_43 : Nat → Int64) (w7_43 : Nat → Int64), (x.toInt + 1).toNat < n9 → (-1 ≤ x.toInt) → (x.toInt ≤ 7) → (xr_variedCount_43 = rv) → (xr_size_43 = rz) → (xr_size_43 ≤ 64) → (xr_variedCount_43 ≤ 8) → ∀ (H : Heap) (locs : List Loc) (ls : Array Slot), va_P D vwCl (wl_k_X2_tryBits_1 cI cJ cK xr r1 r2 r3 r4 r5 w0 w1 w2 w3 w4 w5 w6 w7 (nI xr_size_43) (nI xr_variedCount_43) xr_fewest_43 xr_known_43 r2_43 r3_43 r4_43 wf1 w2_43 w3_43 w4_43 w5_43 w6_43 w7_43) H → va_D A (wl_k_X2_tryBits_1 cI cJ cK xr r1 r2 r3 r4 r5 w0 w1 w2 w3 w4 w5 w6 w7 (nI xr_size_43) (nI xr_variedCount_43) xr_fewest_43 xr_known_43 r2_43 r3_43 r4_43 wf1 w2_43 w3_43 w4_43 w5_43 w6_43 w7_43) → va_S A s.heap H locs → lv_has ls 9 [(7, .int x), (6, .int z_4), (4, .long r_1), (0, .ref xr), (1, .int 1), (2, .int o9), (3, .int u9)] → W p l e ({ frames := 15, cells := 0, slots := 0, locals := 900 } : Room) s m [.ref xr, .int 1, .int o9, .int u9].toArray below meth c H locs 0 0 (MQ below (va_Qv (fun (u : va_W) => ∃ (rz' : Nat) (rv' : Nat) (rw' : Int32) (rk' : Int32) (ro' : Nat → Int64) (rt' : Nat → Int32) (rb' : Nat → Int32) (wf2' : Nat → Int64) (wf3' : Nat → Int64) (wf4' : Nat → Int64) (wf5' : Nat → Int64) (wf6' : Nat → Int64) (wf7' : Nat → Int64), u = (wl_k_X2_tryBits_1 cI cJ cK xr r1 r2 r3 r4 r5 w0 w1 w2 w3 w4 w5 w6 w7 (nI rz') (nI rv') rw' rk' ro' rt' rb' wf1 wf2' wf3' wf4' wf5' wf6' wf7') ∧ rz' ≤ 64 ∧ rv' ≤ 8 ∧ rv' = rv ∧ rz' = rz) (my_B D (tyIJ cI cJ cK) A) A) [.ref xr, .int 1, .int o9, .int u9].toArray s 0 0 A) (F0 m 43 ls []) := by
        intro n9
        induction n9 with
        | zero =>
          intro x xr_size_43 xr_variedCount_43 xr_fewest_43 xr_known_43 r2_43 r3_43 r4_43 w2_43 w3_43 w4_43 w5_43 w6_43 w7_43 hn9
          exact absurd hn9 (Nat.not_lt_zero _)
        | succ n9 ih43 =>
          intro x xr_size_43 xr_variedCount_43 xr_fewest_43 xr_known_43 r2_43 r3_43 r4_43 w2_43 w3_43 w4_43 w5_43 w6_43 w7_43 hn9 hx0 hx1 hv hzz hz_xr_size_43 hz_xr_variedCount_43 H locs ls hP hD hS hl
          refine lv_iload hx hb dX2_tryBits_43 (lv_at hl 0 rfl) ?_
          refine lv_if_lt (tgt := 117) hx hb dX2_tryBits_45 (by decide) (fun c45 => ?_) (fun c45 => ?_)
          ·
            have d45 : x.toInt < (0 : Int) := my_lt c45 rfl (by decide +kernel)
            exact my_retV hx hb hr hlocks hK hS (wl_k_X2_tryBits_1 cI cJ cK xr r1 r2 r3 r4 r5 w0 w1 w2 w3 w4 w5 w6 w7 (nI xr_size_43) (nI xr_variedCount_43) xr_fewest_43 xr_known_43 r2_43 r3_43 r4_43 wf1 w2_43 w3_43 w4_43 w5_43 w6_43 w7_43) hP hD (⟨xr_size_43, xr_variedCount_43, xr_fewest_43, xr_known_43, r2_43, r3_43, r4_43, w2_43, w3_43, w4_43, w5_43, w6_43, w7_43, rfl, (by first | assumption | omega | trivial | decide +kernel), (by first | assumption | omega | trivial | decide +kernel), (by first | assumption | omega | trivial | decide +kernel), (by first | assumption | omega | trivial | decide +kernel)⟩) dX2_tryBits_117
          ·
            have d45 : x.toInt ≥ (0 : Int) := my_nlt c45 rfl (by decide +kernel)
            refine lv_iload_n hx hb dX2_tryBits_48 rfl (lv_at hl 6 rfl) ?_
            refine lv_iconst (v := 1) hx hb dX2_tryBits_49 (by decide +kernel) ?_
            refine lv_iadd hx hb dX2_tryBits_50 ?_
            refine lv_topi (fun z_5 ez_5 => ?_)
            try have tz_5 : z_5.toInt = u9.toInt + (1 : Int) := by rw [ez_5]; exact my_addI rfl (by decide +kernel) (by omega) (by omega)
            refine lv_lload hx hb dX2_tryBits_51 (lv_at hl 2 rfl) ?_
            refine lv_bipush (v := 8) hx hb dX2_tryBits_53 (by decide +kernel) ?_
            refine lv_iload hx hb dX2_tryBits_55 (lv_at hl 0 rfl) ?_
            refine lv_imul hx hb dX2_tryBits_57 ?_
            refine lv_topi (fun z_6 ez_6 => ?_)
            try have tz_6 : z_6.toInt = (8 : Int) * x.toInt := by rw [ez_6]; exact my_mulI (by decide +kernel) rfl (by omega) (by omega)
            refine lv_lushr hx hb dX2_tryBits_58 rfl ?_
            refine lv_topl (fun z_7 ez_7 => ?_)
            refine lv_ldc2 (v := 255) hx hb hown (hts (.constantLong RX2 70 (255)) (by decide +kernel)) dX2_tryBits_59 ?_
            refine lv_land hx hb dX2_tryBits_62 ?_
            refine lv_topl (fun z_8 ez_8 => ?_)
            refine lv_l2i hx hb dX2_tryBits_63 rfl ?_
            refine lv_topi (fun z_9 ez_9 => ?_)
            refine lv_iadd hx hb dX2_tryBits_64 ?_
            refine lv_topi (fun z_10 ez_10 => ?_)
            try have tz_10 : z_10.toInt = z_5.toInt + z_9.toInt := by rw [ez_10]; exact my_addI rfl rfl (by omega) (by omega)
            refine lv_istore (lv' := [(8, .int z_10), (7, .int x), (6, .int z_4), (4, .long r_1), (0, .ref xr), (1, .int 1), (2, .int o9), (3, .int u9)]) hx hb dX2_tryBits_65 hl (by decide) rfl (fun ls hl => ?_)
            refine lv_iload_n hx hb dX2_tryBits_67 rfl (lv_at hl 6 rfl) ?_
            refine lv_iload hx hb dX2_tryBits_68 (lv_at hl 1 rfl) ?_
            refine lv_ishr hx hb dX2_tryBits_70 ?_
            refine lv_topi (fun z_11 ez_11 => ?_)
            refine lv_iconst (v := 1) hx hb dX2_tryBits_71 (by decide +kernel) ?_
            refine lv_iand hx hb dX2_tryBits_72 ?_
            refine lv_topi (fun z_12 ez_12 => ?_)
            have hbz_12 : 0 ≤ z_12.toInt ∧ z_12.toInt ≤ 1 := by rw [ez_12]; exact my_andR (by decide +kernel) (by decide +kernel)
            refine lv_if_eq (tgt := 111) hx hb dX2_tryBits_73 (by decide) (fun c73 => ?_) (fun c73 => ?_)
            ·
              have d73 : z_12.toInt = (0 : Int) := my_eq c73 rfl (by decide +kernel)
              obtain ⟨z_13, ez_13⟩ : ∃ y : Int32, y = x + (-1) := ⟨_, rfl⟩
              try have tz_13 : z_13.toInt = x.toInt + (-1) := by rw [ez_13]; exact my_addI rfl (by decide +kernel) (by omega) (by omega)
              refine lv_iinc (v := z_13) (lv' := [(7, .int z_13), (8, .int z_10), (6, .int z_4), (4, .long r_1), (0, .ref xr), (1, .int 1), (2, .int o9), (3, .int u9)]) hx hb dX2_tryBits_111 hl (k := 1) rfl (by rw [ez_13]; rfl) (by decide) rfl (fun ls hl => ?_)
              refine lv_goto (tgt := 43) hx hb dX2_tryBits_114 (by decide) ?_
              exact ih43  z_13 xr_size_43 xr_variedCount_43 xr_fewest_43 xr_known_43 r2_43 r3_43 r4_43 w2_43 w3_43 w4_43 w5_43 w6_43 w7_43 (by omega) (by first | assumption | omega | decide +kernel) (by first | assumption | omega | decide +kernel) (by first | assumption | omega | decide +kernel) (by first | assumption | omega | decide +kernel) (by first | assumption | omega | decide +kernel) (by first | assumption | omega | decide +kernel) _ _ ls hP hD hS (lv_sub hl [0, 2, 3, 4, 5, 6, 7] rfl)
            ·
              have d73 : z_12.toInt ≠ (0 : Int) := my_ne c73 rfl (by decide +kernel)
              refine lv_iload hx hb dX2_tryBits_76 (lv_at hl 0 rfl) ?_
              refine lv_iload hx hb dX2_tryBits_78 (lv_at hl 2 rfl) ?_
              refine lv_iadd hx hb dX2_tryBits_80 ?_
              refine lv_topi (fun z_14 ez_14 => ?_)
              try have tz_14 : z_14.toInt = z_10.toInt + z_4.toInt := by rw [ez_14]; exact my_addI rfl rfl (by omega) (by omega)
              refine lv_aload_n hx hb dX2_tryBits_81 rfl (lv_at hl 4 rfl) ?_
              refine va_get (ci := 2) (v := .int xr_fewest_43) (C := RX2) (T := TX2) (N := 9) hx hb hts hi2 hown hK hP 0 rfl rfl 7 (by decide) fl37 (fun _ h9 => h9) rfl dX2_tryBits_82 ?_
              refine lv_icmp_ge (tgt := 111) hx hb dX2_tryBits_85 (by decide) (fun c85 => ?_) (fun c85 => ?_)
              ·
                have d85 : z_14.toInt ≥ xr_fewest_43.toInt := my_ge c85 rfl rfl
                obtain ⟨z_15, ez_15⟩ : ∃ y : Int32, y = x + (-1) := ⟨_, rfl⟩
                try have tz_15 : z_15.toInt = x.toInt + (-1) := by rw [ez_15]; exact my_addI rfl (by decide +kernel) (by omega) (by omega)
                refine lv_iinc (v := z_15) (lv' := [(7, .int z_15), (8, .int z_10), (6, .int z_4), (4, .long r_1), (0, .ref xr), (1, .int 1), (2, .int o9), (3, .int u9)]) hx hb dX2_tryBits_111 hl (k := 1) rfl (by rw [ez_15]; rfl) (by decide) rfl (fun ls hl => ?_)
                refine lv_goto (tgt := 43) hx hb dX2_tryBits_114 (by decide) ?_
                exact ih43  z_15 xr_size_43 xr_variedCount_43 xr_fewest_43 xr_known_43 r2_43 r3_43 r4_43 w2_43 w3_43 w4_43 w5_43 w6_43 w7_43 (by omega) (by first | assumption | omega | decide +kernel) (by first | assumption | omega | decide +kernel) (by first | assumption | omega | decide +kernel) (by first | assumption | omega | decide +kernel) (by first | assumption | omega | decide +kernel) (by first | assumption | omega | decide +kernel) _ _ ls hP hD hS (lv_sub hl [0, 2, 3, 4, 5, 6, 7] rfl)
              ·
                have d85 : z_14.toInt < xr_fewest_43.toInt := my_nge c85 rfl rfl
                refine lv_aload_n hx hb dX2_tryBits_88 rfl (lv_at hl 4 rfl) ?_
                refine va_get (ci := 2) (v := .ref r3) (C := RX2) (T := TX2) (N := 9) hx hb hts hi2 hown hK hP 0 rfl rfl 2 (by decide) fl20 (fun _ h9 => h9) rfl dX2_tryBits_89 ?_
                refine lv_iload_n hx hb dX2_tryBits_92 rfl (lv_at hl 5 rfl) ?_
                refine lv_iload hx hb dX2_tryBits_93 (lv_at hl 1 rfl) ?_
                refine va_iast hx hb hK hP hD hS 3 0 rfl rfl (vp_in_nI (n := 1) (by omega) (by omega)) dX2_tryBits_95 (fun H locs hP hD hS => ?_)
                obtain ⟨g_16, eg_16⟩ : ∃ g : Nat → Int32, g = upd r3_43 1 x := ⟨_, rfl⟩
                have eU : upd r3_43 (1 : Int32).toNatClampNeg x = g_16 := by rw [eg_16, show (1 : Int32).toNatClampNeg = 1 from by decide +kernel]
                rw [eU] at hP hD
                have hP : va_P D vwCl (wl_k_X2_tryBits_1 cI cJ cK xr r1 r2 r3 r4 r5 w0 w1 w2 w3 w4 w5 w6 w7 (nI xr_size_43) (nI xr_variedCount_43) xr_fewest_43 xr_known_43 r2_43 g_16 r4_43 wf1 w2_43 w3_43 w4_43 w5_43 w6_43 w7_43) H := hP
                have hD : va_D A (wl_k_X2_tryBits_1 cI cJ cK xr r1 r2 r3 r4 r5 w0 w1 w2 w3 w4 w5 w6 w7 (nI xr_size_43) (nI xr_variedCount_43) xr_fewest_43 xr_known_43 r2_43 g_16 r4_43 wf1 w2_43 w3_43 w4_43 w5_43 w6_43 w7_43) := hD
                refine lv_aload_n hx hb dX2_tryBits_96 rfl (lv_at hl 4 rfl) ?_
                refine lv_iload_n hx hb dX2_tryBits_97 rfl (lv_at hl 5 rfl) ?_
                refine lv_iload_n hx hb dX2_tryBits_98 rfl (lv_at hl 6 rfl) ?_
                refine lv_iconst (v := 1) hx hb dX2_tryBits_99 (by decide +kernel) ?_
                refine lv_iload hx hb dX2_tryBits_100 (lv_at hl 1 rfl) ?_
                refine lv_ishl hx hb dX2_tryBits_102 ?_
                refine lv_topi (fun z_17 ez_17 => ?_)
                refine lv_iconst (v := (-1)) hx hb dX2_tryBits_103 (by decide +kernel) ?_
                refine lv_ixor hx hb dX2_tryBits_104 ?_
                refine lv_topi (fun z_18 ez_18 => ?_)
                refine lv_iand hx hb dX2_tryBits_105 ?_
                refine lv_topi (fun z_19 ez_19 => ?_)
                refine lv_iload hx hb dX2_tryBits_106 (lv_at hl 0 rfl) ?_
                refine my_goVS (wc := (wl_k_X2_takeBit_1 cI cJ cK xr r1 r2 r3 r4 r5 w0 w1 w2 w3 w4 w5 w6 w7 (nI xr_size_43) (nI xr_variedCount_43) xr_fewest_43 xr_known_43 r2_43 g_16 r4_43 wf1 w2_43 w3_43 w4_43 w5_43 w6_43 w7_43)) hP hD hS hA [0, 1, 2, 3, 4, 5, 6, 7, 8, 9, 10, 11] rfl [some 0, some 1, some 2, some 3, some 4, some 5, some 6, some 7, some 8, some 9, some 10, some 11] (by decide +kernel) (my_cV (As := [.int 1, .int z_19, .int z_10]) (rest := []) (ci := 2) (wc := (wl_k_X2_takeBit_1 cI cJ cK xr r1 r2 r3 r4 r5 w0 w1 w2 w3 w4 w5 w6 w7 (nI xr_size_43) (nI xr_variedCount_43) xr_fewest_43 xr_known_43 r2_43 g_16 r4_43 wf1 w2_43 w3_43 w4_43 w5_43 w6_43 w7_43)) ⟨hx, hb, hml, hown, hts⟩ (cwV 3 hts gX2_tryBits_X2_takeBit rfl rfl rfl (by decide +kernel) ⟨Nat.le_of_ble_eq_true rfl, Nat.le_of_ble_eq_true rfl⟩) hN hK hP hD [0, 1, 2, 3, 4, 5, 6, 7, 8, 9, 10, 11] rfl (by decide) rfl 0 rfl rfl rfl rfl hl.1 rfl (Nat.le_of_ble_eq_true rfl) dX2_tryBits_108 ⟨Nat.le_of_ble_eq_true rfl, Nat.le_of_ble_eq_true rfl⟩  ((k_X2_takeBit_1 l D cI cJ cK xr r1 r2 r3 r4 r5 w0 w1 w2 w3 w4 w5 w6 w7 xr_size_43 xr_variedCount_43 xr_fewest_43 xr_known_43 r2_43 g_16 r4_43 wf1 w2_43 w3_43 w4_43 w5_43 w6_43 w7_43 z_19 z_10 (by first | assumption | omega | decide +kernel) (by first | assumption | omega | decide +kernel)) _)) (fun u H locs hp hPD hS => ?_)
                obtain ⟨rz_20, rv_21, rw_22, rk_23, ro_24, rt_25, rb_26, wf2_27, wf3_28, wf4_29, wf5_30, wf6_31, wf7_32, rfl, hhz_rz_33, hhz_rv_34, hv_35, hz_36⟩ := hp
                obtain ⟨hP, hD⟩ := hPD rfl
                have hP : va_P D vwCl (wl_k_X2_tryBits_1 cI cJ cK xr r1 r2 r3 r4 r5 w0 w1 w2 w3 w4 w5 w6 w7 (nI rz_20) (nI rv_21) rw_22 rk_23 ro_24 rt_25 rb_26 wf1 wf2_27 wf3_28 wf4_29 wf5_30 wf6_31 wf7_32) H := hP
                have hD : va_D A (wl_k_X2_tryBits_1 cI cJ cK xr r1 r2 r3 r4 r5 w0 w1 w2 w3 w4 w5 w6 w7 (nI rz_20) (nI rv_21) rw_22 rk_23 ro_24 rt_25 rb_26 wf1 wf2_27 wf3_28 wf4_29 wf5_30 wf6_31 wf7_32) := hD
                obtain ⟨z_37, ez_37⟩ : ∃ y : Int32, y = x + (-1) := ⟨_, rfl⟩
                try have tz_37 : z_37.toInt = x.toInt + (-1) := by rw [ez_37]; exact my_addI rfl (by decide +kernel) (by omega) (by omega)
                refine lv_iinc (v := z_37) (lv' := [(7, .int z_37), (8, .int z_10), (6, .int z_4), (4, .long r_1), (0, .ref xr), (1, .int 1), (2, .int o9), (3, .int u9)]) hx hb dX2_tryBits_111 hl (k := 1) rfl (by rw [ez_37]; rfl) (by decide) rfl (fun ls hl => ?_)
                refine lv_goto (tgt := 43) hx hb dX2_tryBits_114 (by decide) ?_
                exact ih43  z_37 rz_20 rv_21 rw_22 rk_23 ro_24 rt_25 rb_26 wf2_27 wf3_28 wf4_29 wf5_30 wf6_31 wf7_32 (by omega) (by first | assumption | omega | decide +kernel) (by first | assumption | omega | decide +kernel) (by first | assumption | omega | decide +kernel) (by first | assumption | omega | decide +kernel) (by first | assumption | omega | decide +kernel) (by first | assumption | omega | decide +kernel) _ _ ls hP hD hS (lv_sub hl [0, 2, 3, 4, 5, 6, 7] rfl)
      have ec_38 : (7 : Int32).toInt = 7 := by decide +kernel
      exact loop43 ((((7 : Int32).toInt + 1).toNat) + 1) (7 : Int32) rz rv rw rk ro rt rb wf2 wf3 wf4 wf5 wf6 wf7 (Nat.lt_succ_self _) (by first | assumption | omega | decide +kernel) (by first | assumption | omega | decide +kernel) (by first | assumption | omega | decide +kernel) (by first | assumption | omega | decide +kernel) (by first | assumption | omega | decide +kernel) (by first | assumption | omega | decide +kernel) _ _ ls hP hD hS (lv_sub hl [0, 1, 2, 3, 4, 5, 6] rfl)
    ·
      exact absurd c11 (by decide +kernel)
abbrev wl_k_X2_takeBit_0 (cI cJ cK : ClassId) (xr : Nat) (r1 : Nat) (r2 : Nat) (r3 : Nat) (r4 : Nat) (r5 : Nat) (w0 : Nat) (w1 : Nat) (w2 : Nat) (w3 : Nat) (w4 : Nat) (w5 : Nat) (w6 : Nat) (w7 : Nat) (v0_ : Int32) (v1_ : Int32) (v2_ : Int32) (v3_ : Int32) (v4_ : Nat → Int64) (v5_ : Nat → Int32) (v6_ : Nat → Int32) (v7_ : Nat → Int64) (v8_ : Nat → Int64) (v9_ : Nat → Int64) (v10_ : Nat → Int64) (v11_ : Nat → Int64) (v12_ : Nat → Int64) (v13_ : Nat → Int64) (v14_ : Nat → Int64) : va_W := [(xr, .inr (2, [.ref r1, .ref r2, .ref r3, .ref r4, .ref r5, .int v0_, .int v1_, .int v2_, .int v3_])), (r1, .inl (cK, 8, .inr (.inr (.inr (.inr (fun j => ([w0, w1, w2, w3, w4, w5, w6, w7] : List Nat)[j]?)))))), (r2, .inl (cJ, 64, .inr (.inl v4_))), (r3, .inl (cI, 8, .inl v5_)), (r4, .inl (cI, 8, .inl v6_)), (w0, .inl (cJ, 64, .inr (.inl v7_))), (w1, .inl (cJ, 64, .inr (.inl v8_))), (w2, .inl (cJ, 64, .inr (.inl v9_))), (w3, .inl (cJ, 64, .inr (.inl v10_))), (w4, .inl (cJ, 64, .inr (.inl v11_))), (w5, .inl (cJ, 64, .inr (.inl v12_))), (w6, .inl (cJ, 64, .inr (.inl v13_))), (w7, .inl (cJ, 64, .inr (.inl v14_)))]
set_option maxHeartbeats 4000000 in
set_option maxRecDepth 100000 in
theorem k_X2_takeBit_0 (l : Launch) (D : va_G) (cI cJ cK : ClassId) (xr : Nat) (r1 : Nat) (r2 : Nat) (r3 : Nat) (r4 : Nat) (r5 : Nat) (w0 : Nat) (w1 : Nat) (w2 : Nat) (w3 : Nat) (w4 : Nat) (w5 : Nat) (w6 : Nat) (w7 : Nat) (rz : Nat) (rv : Nat) (rw : Int32) (rk : Int32) (ro : Nat → Int64) (rt : Nat → Int32) (rb : Nat → Int32) (wf0 : Nat → Int64) (wf1 : Nat → Int64) (wf2 : Nat → Int64) (wf3 : Nat → Int64) (wf4 : Nat → Int64) (wf5 : Nat → Int64) (wf6 : Nat → Int64) (wf7 : Nat → Int64) (o9 : Int32) (u9 : Int32) (hz_rz : rz ≤ 64) (hz_rv : rv ≤ 8) : ctV l yX2_takeBit wsX2_takeBit ({ frames := 16, cells := 0, slots := 0, locals := 960 } : Room) D (tyIJ cI cJ cK) [.ref xr, .int 0, .int o9, .int u9] (wl_k_X2_takeBit_0 cI cJ cK xr r1 r2 r3 r4 r5 w0 w1 w2 w3 w4 w5 w6 w7 (nI rz) (nI rv) rw rk ro rt rb wf0 wf1 wf2 wf3 wf4 wf5 wf6 wf7) (fun (u : va_W) => ∃ (rz' : Nat) (rv' : Nat) (rw' : Int32) (rk' : Int32) (ro' : Nat → Int64) (rt' : Nat → Int32) (rb' : Nat → Int32) (wf1' : Nat → Int64) (wf2' : Nat → Int64) (wf3' : Nat → Int64) (wf4' : Nat → Int64) (wf5' : Nat → Int64) (wf6' : Nat → Int64) (wf7' : Nat → Int64), u = (wl_k_X2_takeBit_0 cI cJ cK xr r1 r2 r3 r4 r5 w0 w1 w2 w3 w4 w5 w6 w7 (nI rz') (nI rv') rw' rk' ro' rt' rb' wf0 wf1' wf2' wf3' wf4' wf5' wf6' wf7') ∧ rz' ≤ 64 ∧ rv' ≤ 8 ∧ rv' = rv ∧ rz' = rz) := by
  refine ctV.of (cc := cX2_takeBit) (maxL := 4) (ret := none) (by decide) rfl (Nat.le_of_ble_eq_true rfl) ?_
  intro p e s m below meth c ls A hx hb hr hts hown hml hlocks hname hA hK hN hP hD hS hl
  have hl : lv_has ls 4 [(0, .ref xr), (1, .int 0), (2, .int o9), (3, .int u9)] := hl
  have hown : s.vm.findClass RX2 = some m.cls := hown
  have hi2 : ∀ w ∈ u_ws RX2 TX2 9, w ∈ wsX2_takeBit := by decide +kernel
  have fl11 := hts (.fieldLink RX2 11 "PlaneColumn$OrderSearch" "lines" "[[J") (by decide +kernel)
  have fl20 := hts (.fieldLink RX2 20 "PlaneColumn$OrderSearch" "tried" "[I") (by decide +kernel)
  have fl24 := hts (.fieldLink RX2 24 "PlaneColumn$OrderSearch" "best" "[I") (by decide +kernel)
  have fl34 := hts (.fieldLink RX2 34 "PlaneColumn$OrderSearch" "variedCount" "I") (by decide +kernel)
  have fl37 := hts (.fieldLink RX2 37 "PlaneColumn$OrderSearch" "fewest" "I") (by decide +kernel)
  refine lv_iload_n hx hb dX2_takeBit_0 rfl (lv_at hl 2 rfl) ?_
  refine lv_if_ne (tgt := 29) hx hb dX2_takeBit_1 (by decide) (fun c1 => ?_) (fun c1 => ?_)
  ·
    have d1 : o9.toInt ≠ (0 : Int) := my_ne c1 rfl (by decide +kernel)
    refine lv_iload_n hx hb dX2_takeBit_29 rfl (lv_at hl 1 rfl) ?_
    refine lv_iconst (v := 1) hx hb dX2_takeBit_30 (by decide +kernel) ?_
    refine lv_iadd hx hb dX2_takeBit_31 ?_
    refine my_eqi (y := 1) (by decide +kernel) ?_
    refine lv_bipush (v := 8) hx hb dX2_takeBit_32 (by decide +kernel) ?_
    refine lv_icmp_ge (tgt := 70) hx hb dX2_takeBit_34 (by decide) (fun c34 => ?_) (fun c34 => ?_)
    ·
      exact absurd c34 (by decide +kernel)
    ·
      refine lv_aload_n hx hb dX2_takeBit_37 rfl (lv_at hl 0 rfl) ?_
      refine lv_aload_n hx hb dX2_takeBit_38 rfl (lv_at hl 0 rfl) ?_
      refine va_get (ci := 2) (v := .ref r1) (C := RX2) (T := TX2) (N := 9) hx hb hts hi2 hown hK hP 0 rfl rfl 0 (by decide) fl11 (fun _ h9 => h9) rfl dX2_takeBit_39 ?_
      refine lv_iload_n hx hb dX2_takeBit_42 rfl (lv_at hl 1 rfl) ?_
      refine my_aald hx hb hK hP 1 rfl (vp_in_nI (n := 0) (by omega) (by omega)) dX2_takeBit_43 ?_
      refine my_eqa (y := .ref w0) (by rw [show (0 : Int32).toNatClampNeg = 0 by decide +kernel]; rfl) ?_
      refine lv_aload_n hx hb dX2_takeBit_44 rfl (lv_at hl 0 rfl) ?_
      refine va_get (ci := 2) (v := .ref r1) (C := RX2) (T := TX2) (N := 9) hx hb hts hi2 hown hK hP 0 rfl rfl 0 (by decide) fl11 (fun _ h9 => h9) rfl dX2_takeBit_45 ?_
      refine lv_iload_n hx hb dX2_takeBit_48 rfl (lv_at hl 1 rfl) ?_
      refine lv_iconst (v := 1) hx hb dX2_takeBit_49 (by decide +kernel) ?_
      refine lv_iadd hx hb dX2_takeBit_50 ?_
      refine my_eqi (y := 1) (by decide +kernel) ?_
      refine my_aald hx hb hK hP 1 rfl (vp_in_nI (n := 1) (by omega) (by omega)) dX2_takeBit_51 ?_
      refine my_eqa (y := .ref w1) (by rw [show (1 : Int32).toNatClampNeg = 1 by decide +kernel]; rfl) ?_
      refine lv_aload_n hx hb dX2_takeBit_52 rfl (lv_at hl 0 rfl) ?_
      refine va_get (ci := 2) (v := .ref r3) (C := RX2) (T := TX2) (N := 9) hx hb hts hi2 hown hK hP 0 rfl rfl 2 (by decide) fl20 (fun _ h9 => h9) rfl dX2_takeBit_53 ?_
      refine lv_iload_n hx hb dX2_takeBit_56 rfl (lv_at hl 1 rfl) ?_
      refine va_iald hx hb hK hP 3 0 rfl rfl (vp_in_nI (n := 0) (by omega) (by omega)) dX2_takeBit_57 ?_
      refine my_eqi (y := rt 0) (congrArg rt (show (0 : Int32).toNatClampNeg = 0 by decide +kernel)) ?_
      refine my_goVS (wc := (wl_k_X2_part cI cJ cK xr r1 r2 r3 r4 r5 w0 w1 (nI rz) (nI rv) rw rk ro wf0 wf1)) hP hD hS hA [0, 2, 5, 6] rfl [some 0, none, some 1, none, none, some 2, some 3] (by decide +kernel) (my_cV (As := [.ref w0, .ref w1, .int (rt 0)]) (rest := []) (ci := 2) (wc := (wl_k_X2_part cI cJ cK xr r1 r2 r3 r4 r5 w0 w1 (nI rz) (nI rv) rw rk ro wf0 wf1)) ⟨hx, hb, hml, hown, hts⟩ (cwV 3 hts gX2_takeBit_X2_part rfl rfl rfl (by decide +kernel) ⟨Nat.le_of_ble_eq_true rfl, Nat.le_of_ble_eq_true rfl⟩) hN hK hP hD [0, 2, 5, 6] rfl (by decide) rfl 0 rfl rfl rfl rfl hl.1 rfl (Nat.le_of_ble_eq_true rfl) dX2_takeBit_58 ⟨Nat.le_of_ble_eq_true rfl, Nat.le_of_ble_eq_true rfl⟩  ((k_X2_part l D cI cJ cK xr r1 r2 r3 r4 r5 w0 w1 rz rv rw rk ro wf0 wf1 (rt 0) (by first | assumption | omega | decide +kernel) (by first | assumption | omega | decide +kernel)) _)) (fun u H locs hp hPD hS => ?_)
      obtain ⟨ro_2, wfb_3, rfl⟩ := hp
      obtain ⟨hP, hD⟩ := hPD rfl
      have hP : va_P D vwCl (wl_k_X2_takeBit_0 cI cJ cK xr r1 r2 r3 r4 r5 w0 w1 w2 w3 w4 w5 w6 w7 (nI rz) (nI rv) rw rk ro_2 rt rb wf0 wfb_3 wf2 wf3 wf4 wf5 wf6 wf7) H := hP
      have hD : va_D A (wl_k_X2_takeBit_0 cI cJ cK xr r1 r2 r3 r4 r5 w0 w1 w2 w3 w4 w5 w6 w7 (nI rz) (nI rv) rw rk ro_2 rt rb wf0 wfb_3 wf2 wf3 wf4 wf5 wf6 wf7) := hD
      refine lv_aload_n hx hb dX2_takeBit_61 rfl (lv_at hl 0 rfl) ?_
      refine lv_iload_n hx hb dX2_takeBit_62 rfl (lv_at hl 1 rfl) ?_
      refine lv_iconst (v := 1) hx hb dX2_takeBit_63 (by decide +kernel) ?_
      refine lv_iadd hx hb dX2_takeBit_64 ?_
      refine my_eqi (y := 1) (by decide +kernel) ?_
      refine lv_iload_n hx hb dX2_takeBit_65 rfl (lv_at hl 2 rfl) ?_
      refine lv_iload_n hx hb dX2_takeBit_66 rfl (lv_at hl 3 rfl) ?_
      refine my_goVS (wc := (wl_k_X2_tryBits_1 cI cJ cK xr r1 r2 r3 r4 r5 w0 w1 w2 w3 w4 w5 w6 w7 (nI rz) (nI rv) rw rk ro_2 rt rb wfb_3 wf2 wf3 wf4 wf5 wf6 wf7)) hP hD hS hA [0, 1, 2, 3, 4, 6, 7, 8, 9, 10, 11, 12] rfl [some 0, some 1, some 2, some 3, some 4, none, some 5, some 6, some 7, some 8, some 9, some 10, some 11] (by decide +kernel) (my_cV (As := [.int 1, .int o9, .int u9]) (rest := []) (ci := 2) (wc := (wl_k_X2_tryBits_1 cI cJ cK xr r1 r2 r3 r4 r5 w0 w1 w2 w3 w4 w5 w6 w7 (nI rz) (nI rv) rw rk ro_2 rt rb wfb_3 wf2 wf3 wf4 wf5 wf6 wf7)) ⟨hx, hb, hml, hown, hts⟩ (cwV 3 hts gX2_takeBit_X2_tryBits rfl rfl rfl (by decide +kernel) ⟨Nat.le_of_ble_eq_true rfl, Nat.le_of_ble_eq_true rfl⟩) hN hK hP hD [0, 1, 2, 3, 4, 6, 7, 8, 9, 10, 11, 12] rfl (by decide) rfl 0 rfl rfl rfl rfl hl.1 rfl (Nat.le_of_ble_eq_true rfl) dX2_takeBit_67 ⟨Nat.le_of_ble_eq_true rfl, Nat.le_of_ble_eq_true rfl⟩  ((k_X2_tryBits_1 l D cI cJ cK xr r1 r2 r3 r4 r5 w0 w1 w2 w3 w4 w5 w6 w7 rz rv rw rk ro_2 rt rb wfb_3 wf2 wf3 wf4 wf5 wf6 wf7 o9 u9 (by first | assumption | omega | decide +kernel) (by first | assumption | omega | decide +kernel)) _)) (fun u H locs hp hPD hS => ?_)
      obtain ⟨rz_4, rv_5, rw_6, rk_7, ro_8, rt_9, rb_10, wf2_11, wf3_12, wf4_13, wf5_14, wf6_15, wf7_16, rfl, hhz_rz_17, hhz_rv_18, hv_19, hz_20⟩ := hp
      obtain ⟨hP, hD⟩ := hPD rfl
      have hP : va_P D vwCl (wl_k_X2_takeBit_0 cI cJ cK xr r1 r2 r3 r4 r5 w0 w1 w2 w3 w4 w5 w6 w7 (nI rz_4) (nI rv_5) rw_6 rk_7 ro_8 rt_9 rb_10 wf0 wfb_3 wf2_11 wf3_12 wf4_13 wf5_14 wf6_15 wf7_16) H := hP
      have hD : va_D A (wl_k_X2_takeBit_0 cI cJ cK xr r1 r2 r3 r4 r5 w0 w1 w2 w3 w4 w5 w6 w7 (nI rz_4) (nI rv_5) rw_6 rk_7 ro_8 rt_9 rb_10 wf0 wfb_3 wf2_11 wf3_12 wf4_13 wf5_14 wf6_15 wf7_16) := hD
      exact my_retV hx hb hr hlocks hK hS (wl_k_X2_takeBit_0 cI cJ cK xr r1 r2 r3 r4 r5 w0 w1 w2 w3 w4 w5 w6 w7 (nI rz_4) (nI rv_5) rw_6 rk_7 ro_8 rt_9 rb_10 wf0 wfb_3 wf2_11 wf3_12 wf4_13 wf5_14 wf6_15 wf7_16) hP hD (⟨rz_4, rv_5, rw_6, rk_7, ro_8, rt_9, rb_10, wfb_3, wf2_11, wf3_12, wf4_13, wf5_14, wf6_15, wf7_16, rfl, (by first | assumption | omega | trivial | decide +kernel), (by first | assumption | omega | trivial | decide +kernel), (by first | assumption | omega | trivial | decide +kernel), (by first | assumption | omega | trivial | decide +kernel)⟩) dX2_takeBit_70
  ·
    have d1 : o9.toInt = (0 : Int) := my_eq c1 rfl (by decide +kernel)
    refine lv_aload_n hx hb dX2_takeBit_4 rfl (lv_at hl 0 rfl) ?_
    refine lv_iload_n hx hb dX2_takeBit_5 rfl (lv_at hl 3 rfl) ?_
    refine va_put (ci := 2) (v := .int u9) (ty := (.int)) (C := RX2) (T := TX2) (N := 9) hx hb hts hi2 tyX2 tyX2_ok nmX2 hown hK hP hD hS 0 rfl rfl 7 (by decide) fl37 (fun _ h9 => h9) rfl (by decide +kernel) rfl rfl (Nat.le_of_ble_eq_true rfl) dX2_takeBit_6 (fun H locs hP hD hS => ?_)
    have hP : va_P D vwCl (wl_k_X2_takeBit_0 cI cJ cK xr r1 r2 r3 r4 r5 w0 w1 w2 w3 w4 w5 w6 w7 (nI rz) (nI rv) u9 rk ro rt rb wf0 wf1 wf2 wf3 wf4 wf5 wf6 wf7) H := hP
    have hD : va_D A (wl_k_X2_takeBit_0 cI cJ cK xr r1 r2 r3 r4 r5 w0 w1 w2 w3 w4 w5 w6 w7 (nI rz) (nI rv) u9 rk ro rt rb wf0 wf1 wf2 wf3 wf4 wf5 wf6 wf7) := hD
    refine lv_aload_n hx hb dX2_takeBit_9 rfl (lv_at hl 0 rfl) ?_
    refine va_get (ci := 2) (v := .ref r3) (C := RX2) (T := TX2) (N := 9) hx hb hts hi2 hown hK hP 0 rfl rfl 2 (by decide) fl20 (fun _ h9 => h9) rfl dX2_takeBit_10 ?_
    refine lv_iconst (v := 0) hx hb dX2_takeBit_13 (by decide +kernel) ?_
    refine lv_aload_n hx hb dX2_takeBit_14 rfl (lv_at hl 0 rfl) ?_
    refine va_get (ci := 2) (v := .ref r4) (C := RX2) (T := TX2) (N := 9) hx hb hts hi2 hown hK hP 0 rfl rfl 3 (by decide) fl24 (fun _ h9 => h9) rfl dX2_takeBit_15 ?_
    refine lv_iconst (v := 0) hx hb dX2_takeBit_18 (by decide +kernel) ?_
    refine lv_aload_n hx hb dX2_takeBit_19 rfl (lv_at hl 0 rfl) ?_
    refine va_get (ci := 2) (v := .int (nI rv)) (C := RX2) (T := TX2) (N := 9) hx hb hts hi2 hown hK hP 0 rfl rfl 6 (by decide) fl34 (fun _ h9 => h9) rfl dX2_takeBit_20 ?_
    refine va_copyi hx hb (hml.trans hl.1.symm) hown (hts (.methodLink RX2 75 arraycopyName) (by decide +kernel)) (hts (.native arraycopyName) (by decide +kernel)) (hts (.static arraycopyName) (by decide +kernel)) (hts (.initialized "java/lang/System") (by decide +kernel)) hK hP hD hS 3 4 0 0 rfl rfl rfl rfl rfl (by decide +kernel) (by decide +kernel) (nI_nneg (by omega)) (by rw [show (0 : Int32).toNatClampNeg = 0 from (by decide +kernel), show (nI rv : Int32).toNatClampNeg = rv from (nI_clamp (by omega))]; omega) (by rw [show (0 : Int32).toNatClampNeg = 0 from (by decide +kernel), show (nI rv : Int32).toNatClampNeg = rv from (nI_clamp (by omega))]; omega) (fun _ _ => rfl) (Nat.le_of_ble_eq_true rfl) (Nat.le_of_ble_eq_true rfl) dX2_takeBit_23 (fun H locs hP hD hS => ?_)
    obtain ⟨g_21, eg_21⟩ : ∃ g : Nat → Int32, g = va_cpy rt rb 0 0 rv := ⟨_, rfl⟩
    have eU : va_cpy rt rb (0 : Int32).toNatClampNeg (0 : Int32).toNatClampNeg (nI rv : Int32).toNatClampNeg = g_21 := by rw [eg_21, show (0 : Int32).toNatClampNeg = 0 from (by decide +kernel), show (nI rv : Int32).toNatClampNeg = rv from (nI_clamp (by omega))]
    rw [eU] at hP hD
    have hP : va_P D vwCl (wl_k_X2_takeBit_0 cI cJ cK xr r1 r2 r3 r4 r5 w0 w1 w2 w3 w4 w5 w6 w7 (nI rz) (nI rv) u9 rk ro rt g_21 wf0 wf1 wf2 wf3 wf4 wf5 wf6 wf7) H := hP
    have hD : va_D A (wl_k_X2_takeBit_0 cI cJ cK xr r1 r2 r3 r4 r5 w0 w1 w2 w3 w4 w5 w6 w7 (nI rz) (nI rv) u9 rk ro rt g_21 wf0 wf1 wf2 wf3 wf4 wf5 wf6 wf7) := hD
    refine lv_goto (tgt := 70) hx hb dX2_takeBit_26 (by decide) ?_
    exact my_retV hx hb hr hlocks hK hS (wl_k_X2_takeBit_0 cI cJ cK xr r1 r2 r3 r4 r5 w0 w1 w2 w3 w4 w5 w6 w7 (nI rz) (nI rv) u9 rk ro rt g_21 wf0 wf1 wf2 wf3 wf4 wf5 wf6 wf7) hP hD (⟨rz, rv, u9, rk, ro, rt, g_21, wf1, wf2, wf3, wf4, wf5, wf6, wf7, rfl, (by first | assumption | omega | trivial | decide +kernel), (by first | assumption | omega | trivial | decide +kernel), (by first | assumption | omega | trivial | decide +kernel), (by first | assumption | omega | trivial | decide +kernel)⟩) dX2_takeBit_70
abbrev wl_k_X2_tryBits_0 (cI cJ cK : ClassId) (xr : Nat) (r1 : Nat) (r2 : Nat) (r3 : Nat) (r4 : Nat) (r5 : Nat) (w0 : Nat) (w1 : Nat) (w2 : Nat) (w3 : Nat) (w4 : Nat) (w5 : Nat) (w6 : Nat) (w7 : Nat) (v0_ : Int32) (v1_ : Int32) (v2_ : Int32) (v3_ : Int32) (v4_ : Nat → Int64) (v5_ : Nat → Int32) (v6_ : Nat → Int32) (v7_ : Nat → Int64) (v8_ : Nat → Int64) (v9_ : Nat → Int64) (v10_ : Nat → Int64) (v11_ : Nat → Int64) (v12_ : Nat → Int64) (v13_ : Nat → Int64) (v14_ : Nat → Int64) : va_W := [(xr, .inr (2, [.ref r1, .ref r2, .ref r3, .ref r4, .ref r5, .int v0_, .int v1_, .int v2_, .int v3_])), (r1, .inl (cK, 8, .inr (.inr (.inr (.inr (fun j => ([w0, w1, w2, w3, w4, w5, w6, w7] : List Nat)[j]?)))))), (r2, .inl (cJ, 64, .inr (.inl v4_))), (r3, .inl (cI, 8, .inl v5_)), (r4, .inl (cI, 8, .inl v6_)), (w0, .inl (cJ, 64, .inr (.inl v7_))), (w1, .inl (cJ, 64, .inr (.inl v8_))), (w2, .inl (cJ, 64, .inr (.inl v9_))), (w3, .inl (cJ, 64, .inr (.inl v10_))), (w4, .inl (cJ, 64, .inr (.inl v11_))), (w5, .inl (cJ, 64, .inr (.inl v12_))), (w6, .inl (cJ, 64, .inr (.inl v13_))), (w7, .inl (cJ, 64, .inr (.inl v14_)))]
set_option maxHeartbeats 4000000 in
set_option maxRecDepth 100000 in
theorem k_X2_tryBits_0 (l : Launch) (D : va_G) (cI cJ cK : ClassId) (xr : Nat) (r1 : Nat) (r2 : Nat) (r3 : Nat) (r4 : Nat) (r5 : Nat) (w0 : Nat) (w1 : Nat) (w2 : Nat) (w3 : Nat) (w4 : Nat) (w5 : Nat) (w6 : Nat) (w7 : Nat) (rz : Nat) (rv : Nat) (rw : Int32) (rk : Int32) (ro : Nat → Int64) (rt : Nat → Int32) (rb : Nat → Int32) (wf0 : Nat → Int64) (wf1 : Nat → Int64) (wf2 : Nat → Int64) (wf3 : Nat → Int64) (wf4 : Nat → Int64) (wf5 : Nat → Int64) (wf6 : Nat → Int64) (wf7 : Nat → Int64) (o9 : Int32) (u9 : Int32) (hz_rz : rz ≤ 64) (hz_rv : rv ≤ 8) : ctV l yX2_tryBits wsX2_tryBits ({ frames := 17, cells := 0, slots := 0, locals := 1020 } : Room) D (tyIJ cI cJ cK) [.ref xr, .int 0, .int o9, .int u9] (wl_k_X2_tryBits_0 cI cJ cK xr r1 r2 r3 r4 r5 w0 w1 w2 w3 w4 w5 w6 w7 (nI rz) (nI rv) rw rk ro rt rb wf0 wf1 wf2 wf3 wf4 wf5 wf6 wf7) (fun (u : va_W) => ∃ (rz' : Nat) (rv' : Nat) (rw' : Int32) (rk' : Int32) (ro' : Nat → Int64) (rt' : Nat → Int32) (rb' : Nat → Int32) (wf1' : Nat → Int64) (wf2' : Nat → Int64) (wf3' : Nat → Int64) (wf4' : Nat → Int64) (wf5' : Nat → Int64) (wf6' : Nat → Int64) (wf7' : Nat → Int64), u = (wl_k_X2_tryBits_0 cI cJ cK xr r1 r2 r3 r4 r5 w0 w1 w2 w3 w4 w5 w6 w7 (nI rz') (nI rv') rw' rk' ro' rt' rb' wf0 wf1' wf2' wf3' wf4' wf5' wf6' wf7') ∧ rz' ≤ 64 ∧ rv' ≤ 8 ∧ rv' = rv ∧ rz' = rz) := by
  refine ctV.of (cc := cX2_tryBits) (maxL := 9) (ret := none) (by decide) rfl (Nat.le_of_ble_eq_true rfl) ?_
  intro p e s m below meth c ls A hx hb hr hts hown hml hlocks hname hA hK hN hP hD hS hl
  have hl : lv_has ls 9 [(0, .ref xr), (1, .int 0), (2, .int o9), (3, .int u9)] := hl
  have hown : s.vm.findClass RX2 = some m.cls := hown
  have hi2 : ∀ w ∈ u_ws RX2 TX2 9, w ∈ wsX2_tryBits := by decide +kernel
  have fl11 := hts (.fieldLink RX2 11 "PlaneColumn$OrderSearch" "lines" "[[J") (by decide +kernel)
  have fl20 := hts (.fieldLink RX2 20 "PlaneColumn$OrderSearch" "tried" "[I") (by decide +kernel)
  have fl34 := hts (.fieldLink RX2 34 "PlaneColumn$OrderSearch" "variedCount" "I") (by decide +kernel)
  have fl37 := hts (.fieldLink RX2 37 "PlaneColumn$OrderSearch" "fewest" "I") (by decide +kernel)
  refine lv_iload_n hx hb dX2_tryBits_0 rfl (lv_at hl 1 rfl) ?_
  refine lv_aload_n hx hb dX2_tryBits_1 rfl (lv_at hl 0 rfl) ?_
  refine va_get (ci := 2) (v := .int (nI rv)) (C := RX2) (T := TX2) (N := 9) hx hb hts hi2 hown hK hP 0 rfl rfl 6 (by decide) fl34 (fun _ h9 => h9) rfl dX2_tryBits_2 ?_
  refine lv_icmp_ge (tgt := 14) hx hb dX2_tryBits_5 (by decide) (fun c5 => ?_) (fun c5 => ?_)
  ·
    have d5 : (0 : Int) ≥ ((rv : Nat) : Int) := my_ge c5 (by decide +kernel) (nI_toInt (by omega))
    exact my_retV hx hb hr hlocks hK hS (wl_k_X2_tryBits_0 cI cJ cK xr r1 r2 r3 r4 r5 w0 w1 w2 w3 w4 w5 w6 w7 (nI rz) (nI rv) rw rk ro rt rb wf0 wf1 wf2 wf3 wf4 wf5 wf6 wf7) hP hD (⟨rz, rv, rw, rk, ro, rt, rb, wf1, wf2, wf3, wf4, wf5, wf6, wf7, rfl, (by first | assumption | omega | trivial | decide +kernel), (by first | assumption | omega | trivial | decide +kernel), (by first | assumption | omega | trivial | decide +kernel), (by first | assumption | omega | trivial | decide +kernel)⟩) dX2_tryBits_14
  ·
    have d5 : (0 : Int) < ((rv : Nat) : Int) := my_nge c5 (by decide +kernel) (nI_toInt (by omega))
    refine lv_iload_n hx hb dX2_tryBits_8 rfl (lv_at hl 1 rfl) ?_
    refine lv_bipush (v := 8) hx hb dX2_tryBits_9 (by decide +kernel) ?_
    refine lv_icmp_lt (tgt := 15) hx hb dX2_tryBits_11 (by decide) (fun c11 => ?_) (fun c11 => ?_)
    ·
      refine lv_aload_n hx hb dX2_tryBits_15 rfl (lv_at hl 0 rfl) ?_
      refine lv_aload_n hx hb dX2_tryBits_16 rfl (lv_at hl 0 rfl) ?_
      refine va_get (ci := 2) (v := .ref r1) (C := RX2) (T := TX2) (N := 9) hx hb hts hi2 hown hK hP 0 rfl rfl 0 (by decide) fl11 (fun _ h9 => h9) rfl dX2_tryBits_17 ?_
      refine lv_iload_n hx hb dX2_tryBits_20 rfl (lv_at hl 1 rfl) ?_
      refine my_aald hx hb hK hP 1 rfl (vp_in_nI (n := 0) (by omega) (by omega)) dX2_tryBits_21 ?_
      refine my_eqa (y := .ref w0) (by rw [show (0 : Int32).toNatClampNeg = 0 by decide +kernel]; rfl) ?_
      refine my_gpL (my_pV (As := [.ref w0]) (rest := []) (ci := 2) ⟨hx, hb, hml, hown, hts⟩ (cwV 1 hts gX2_tryBits_X2_changesOf rfl rfl rfl (by decide +kernel) ⟨Nat.le_of_ble_eq_true rfl, Nat.le_of_ble_eq_true rfl⟩) hN hK hP [0, 5] rfl 0 rfl rfl rfl rfl hl.1 rfl (Nat.le_of_ble_eq_true rfl) dX2_tryBits_22 ⟨Nat.le_of_ble_eq_true rfl, Nat.le_of_ble_eq_true rfl⟩  (k_X2_changesOf l D cI cJ cK xr r1 r2 r3 r4 r5 w0 rz rv rw rk wf0 (by first | assumption | omega | decide +kernel) (by first | assumption | omega | decide +kernel))) (fun r hp => ?_)
      obtain _ := hp
      obtain ⟨r_1, rfl⟩ : ∃ z, z = r := ⟨_, rfl⟩
      refine lv_lstore (lv' := [(4, .long r_1), (0, .ref xr), (1, .int 0), (2, .int o9), (3, .int u9)]) hx hb dX2_tryBits_25 hl (by decide) rfl (fun ls hl => ?_)
      refine lv_iconst (v := 2) hx hb dX2_tryBits_27 (by decide +kernel) ?_
      refine lv_aload_n hx hb dX2_tryBits_28 rfl (lv_at hl 1 rfl) ?_
      refine va_get (ci := 2) (v := .int (nI rv)) (C := RX2) (T := TX2) (N := 9) hx hb hts hi2 hown hK hP 0 rfl rfl 6 (by decide) fl34 (fun _ h9 => h9) rfl dX2_tryBits_29 ?_
      refine lv_iconst (v := 1) hx hb dX2_tryBits_32 (by decide +kernel) ?_
      refine lv_isub hx hb dX2_tryBits_33 ?_
      refine lv_topi (fun z_2 ez_2 => ?_)
      try have tz_2 : z_2.toInt = ((rv : Nat) : Int) - (1 : Int) := by rw [ez_2]; exact my_subI (nI_toInt (by omega)) (by decide +kernel) (by omega) (by omega)
      refine lv_iload_n hx hb dX2_tryBits_34 rfl (lv_at hl 2 rfl) ?_
      refine lv_isub hx hb dX2_tryBits_35 ?_
      refine lv_topi (fun z_3 ez_3 => ?_)
      try have tz_3 : z_3.toInt = z_2.toInt - (0 : Int) := by rw [ez_3]; exact my_subI rfl (by decide +kernel) (by omega) (by omega)
      refine lv_imul hx hb dX2_tryBits_36 ?_
      refine lv_topi (fun z_4 ez_4 => ?_)
      try have tz_4 : z_4.toInt = (2 : Int) * z_3.toInt := by rw [ez_4]; exact my_mulI (by decide +kernel) rfl (by omega) (by omega)
      refine lv_istore (lv' := [(6, .int z_4), (4, .long r_1), (0, .ref xr), (1, .int 0), (2, .int o9), (3, .int u9)]) hx hb dX2_tryBits_37 hl (by decide) rfl (fun ls hl => ?_)
      refine lv_bipush (v := 7) hx hb dX2_tryBits_39 (by decide +kernel) ?_
      refine lv_istore (lv' := [(7, .int 7), (6, .int z_4), (4, .long r_1), (0, .ref xr), (1, .int 0), (2, .int o9), (3, .int u9)]) hx hb dX2_tryBits_41 hl (by decide) rfl (fun ls hl => ?_)
      have loop43 : ∀ (n9 : Nat) (x : Int32) (xr_size_43 : Nat) (xr_variedCount_43 : Nat) (xr_fewest_43 : Int32) (xr_known_43 : Int32) (r2_43 : Nat → Int64) (r3_43 : Nat → Int32) (r4_43 : Nat → Int32) (w1_43 : Nat → Int64) (w2_43 : Nat → Int64) (w3_43 : Nat → Int64) (w4_43 : Nat → Int64) (w5_43 : Nat → Int64) (w6_43 : Nat → Int64) (w7_43 : Nat → Int64), (x.toInt + 1).toNat < n9 → (-1 ≤ x.toInt) → (x.toInt ≤ 7) → (xr_variedCount_43 = rv) → (xr_size_43 = rz) → (xr_size_43 ≤ 64) → (xr_variedCount_43 ≤ 8) → ∀ (H : Heap) (locs : List Loc) (ls : Array Slot), va_P D vwCl (wl_k_X2_tryBits_0 cI cJ cK xr r1 r2 r3 r4 r5 w0 w1 w2 w3 w4 w5 w6 w7 (nI xr_size_43) (nI xr_variedCount_43) xr_fewest_43 xr_known_43 r2_43 r3_43 r4_43 wf0 w1_43 w2_43 w3_43 w4_43 w5_43 w6_43 w7_43) H → va_D A (wl_k_X2_tryBits_0 cI cJ cK xr r1 r2 r3 r4 r5 w0 w1 w2 w3 w4 w5 w6 w7 (nI xr_size_43) (nI xr_variedCount_43) xr_fewest_43 xr_known_43 r2_43 r3_43 r4_43 wf0 w1_43 w2_43 w3_43 w4_43 w5_43 w6_43 w7_43) → va_S A s.heap H locs → lv_has ls 9 [(7, .int x), (6, .int z_4), (4, .long r_1), (0, .ref xr), (1, .int 0), (2, .int o9), (3, .int u9)] → W p l e ({ frames := 17, cells := 0, slots := 0, locals := 1020 } : Room) s m [.ref xr, .int 0, .int o9, .int u9].toArray below meth c H locs 0 0 (MQ below (va_Qv (fun (u : va_W) => ∃ (rz' : Nat) (rv' : Nat) (rw' : Int32) (rk' : Int32) (ro' : Nat → Int64) (rt' : Nat → Int32) (rb' : Nat → Int32) (wf1' : Nat → Int64) (wf2' : Nat → Int64) (wf3' : Nat → Int64) (wf4' : Nat → Int64) (wf5' : Nat → Int64) (wf6' : Nat → Int64) (wf7' : Nat → Int64), u = (wl_k_X2_tryBits_0 cI cJ cK xr r1 r2 r3 r4 r5 w0 w1 w2 w3 w4 w5 w6 w7 (nI rz') (nI rv') rw' rk' ro' rt' rb' wf0 wf1' wf2' wf3' wf4' wf5' wf6' wf7') ∧ rz' ≤ 64 ∧ rv' ≤ 8 ∧ rv' = rv ∧ rz' = rz) (my_B D (tyIJ cI cJ cK) A) A) [.ref xr, .int 0, .int o9, .int u9].toArray s 0 0 A) (F0 m 43 ls []) := by
        intro n9
        induction n9 with
        | zero =>
          intro x xr_size_43 xr_variedCount_43 xr_fewest_43 xr_known_43 r2_43 r3_43 r4_43 w1_43 w2_43 w3_43 w4_43 w5_43 w6_43 w7_43 hn9
          exact absurd hn9 (Nat.not_lt_zero _)
        | succ n9 ih43 =>
          intro x xr_size_43 xr_variedCount_43 xr_fewest_43 xr_known_43 r2_43 r3_43 r4_43 w1_43 w2_43 w3_43 w4_43 w5_43 w6_43 w7_43 hn9 hx0 hx1 hv hzz hz_xr_size_43 hz_xr_variedCount_43 H locs ls hP hD hS hl
          refine lv_iload hx hb dX2_tryBits_43 (lv_at hl 0 rfl) ?_
          refine lv_if_lt (tgt := 117) hx hb dX2_tryBits_45 (by decide) (fun c45 => ?_) (fun c45 => ?_)
          ·
            have d45 : x.toInt < (0 : Int) := my_lt c45 rfl (by decide +kernel)
            exact my_retV hx hb hr hlocks hK hS (wl_k_X2_tryBits_0 cI cJ cK xr r1 r2 r3 r4 r5 w0 w1 w2 w3 w4 w5 w6 w7 (nI xr_size_43) (nI xr_variedCount_43) xr_fewest_43 xr_known_43 r2_43 r3_43 r4_43 wf0 w1_43 w2_43 w3_43 w4_43 w5_43 w6_43 w7_43) hP hD (⟨xr_size_43, xr_variedCount_43, xr_fewest_43, xr_known_43, r2_43, r3_43, r4_43, w1_43, w2_43, w3_43, w4_43, w5_43, w6_43, w7_43, rfl, (by first | assumption | omega | trivial | decide +kernel), (by first | assumption | omega | trivial | decide +kernel), (by first | assumption | omega | trivial | decide +kernel), (by first | assumption | omega | trivial | decide +kernel)⟩) dX2_tryBits_117
          ·
            have d45 : x.toInt ≥ (0 : Int) := my_nlt c45 rfl (by decide +kernel)
            refine lv_iload_n hx hb dX2_tryBits_48 rfl (lv_at hl 6 rfl) ?_
            refine lv_iconst (v := 1) hx hb dX2_tryBits_49 (by decide +kernel) ?_
            refine lv_iadd hx hb dX2_tryBits_50 ?_
            refine lv_topi (fun z_5 ez_5 => ?_)
            try have tz_5 : z_5.toInt = u9.toInt + (1 : Int) := by rw [ez_5]; exact my_addI rfl (by decide +kernel) (by omega) (by omega)
            refine lv_lload hx hb dX2_tryBits_51 (lv_at hl 2 rfl) ?_
            refine lv_bipush (v := 8) hx hb dX2_tryBits_53 (by decide +kernel) ?_
            refine lv_iload hx hb dX2_tryBits_55 (lv_at hl 0 rfl) ?_
            refine lv_imul hx hb dX2_tryBits_57 ?_
            refine lv_topi (fun z_6 ez_6 => ?_)
            try have tz_6 : z_6.toInt = (8 : Int) * x.toInt := by rw [ez_6]; exact my_mulI (by decide +kernel) rfl (by omega) (by omega)
            refine lv_lushr hx hb dX2_tryBits_58 rfl ?_
            refine lv_topl (fun z_7 ez_7 => ?_)
            refine lv_ldc2 (v := 255) hx hb hown (hts (.constantLong RX2 70 (255)) (by decide +kernel)) dX2_tryBits_59 ?_
            refine lv_land hx hb dX2_tryBits_62 ?_
            refine lv_topl (fun z_8 ez_8 => ?_)
            refine lv_l2i hx hb dX2_tryBits_63 rfl ?_
            refine lv_topi (fun z_9 ez_9 => ?_)
            refine lv_iadd hx hb dX2_tryBits_64 ?_
            refine lv_topi (fun z_10 ez_10 => ?_)
            try have tz_10 : z_10.toInt = z_5.toInt + z_9.toInt := by rw [ez_10]; exact my_addI rfl rfl (by omega) (by omega)
            refine lv_istore (lv' := [(8, .int z_10), (7, .int x), (6, .int z_4), (4, .long r_1), (0, .ref xr), (1, .int 0), (2, .int o9), (3, .int u9)]) hx hb dX2_tryBits_65 hl (by decide) rfl (fun ls hl => ?_)
            refine lv_iload_n hx hb dX2_tryBits_67 rfl (lv_at hl 6 rfl) ?_
            refine lv_iload hx hb dX2_tryBits_68 (lv_at hl 1 rfl) ?_
            refine lv_ishr hx hb dX2_tryBits_70 ?_
            refine lv_topi (fun z_11 ez_11 => ?_)
            refine lv_iconst (v := 1) hx hb dX2_tryBits_71 (by decide +kernel) ?_
            refine lv_iand hx hb dX2_tryBits_72 ?_
            refine lv_topi (fun z_12 ez_12 => ?_)
            have hbz_12 : 0 ≤ z_12.toInt ∧ z_12.toInt ≤ 1 := by rw [ez_12]; exact my_andR (by decide +kernel) (by decide +kernel)
            refine lv_if_eq (tgt := 111) hx hb dX2_tryBits_73 (by decide) (fun c73 => ?_) (fun c73 => ?_)
            ·
              have d73 : z_12.toInt = (0 : Int) := my_eq c73 rfl (by decide +kernel)
              obtain ⟨z_13, ez_13⟩ : ∃ y : Int32, y = x + (-1) := ⟨_, rfl⟩
              try have tz_13 : z_13.toInt = x.toInt + (-1) := by rw [ez_13]; exact my_addI rfl (by decide +kernel) (by omega) (by omega)
              refine lv_iinc (v := z_13) (lv' := [(7, .int z_13), (8, .int z_10), (6, .int z_4), (4, .long r_1), (0, .ref xr), (1, .int 0), (2, .int o9), (3, .int u9)]) hx hb dX2_tryBits_111 hl (k := 1) rfl (by rw [ez_13]; rfl) (by decide) rfl (fun ls hl => ?_)
              refine lv_goto (tgt := 43) hx hb dX2_tryBits_114 (by decide) ?_
              exact ih43  z_13 xr_size_43 xr_variedCount_43 xr_fewest_43 xr_known_43 r2_43 r3_43 r4_43 w1_43 w2_43 w3_43 w4_43 w5_43 w6_43 w7_43 (by omega) (by first | assumption | omega | decide +kernel) (by first | assumption | omega | decide +kernel) (by first | assumption | omega | decide +kernel) (by first | assumption | omega | decide +kernel) (by first | assumption | omega | decide +kernel) (by first | assumption | omega | decide +kernel) _ _ ls hP hD hS (lv_sub hl [0, 2, 3, 4, 5, 6, 7] rfl)
            ·
              have d73 : z_12.toInt ≠ (0 : Int) := my_ne c73 rfl (by decide +kernel)
              refine lv_iload hx hb dX2_tryBits_76 (lv_at hl 0 rfl) ?_
              refine lv_iload hx hb dX2_tryBits_78 (lv_at hl 2 rfl) ?_
              refine lv_iadd hx hb dX2_tryBits_80 ?_
              refine lv_topi (fun z_14 ez_14 => ?_)
              try have tz_14 : z_14.toInt = z_10.toInt + z_4.toInt := by rw [ez_14]; exact my_addI rfl rfl (by omega) (by omega)
              refine lv_aload_n hx hb dX2_tryBits_81 rfl (lv_at hl 4 rfl) ?_
              refine va_get (ci := 2) (v := .int xr_fewest_43) (C := RX2) (T := TX2) (N := 9) hx hb hts hi2 hown hK hP 0 rfl rfl 7 (by decide) fl37 (fun _ h9 => h9) rfl dX2_tryBits_82 ?_
              refine lv_icmp_ge (tgt := 111) hx hb dX2_tryBits_85 (by decide) (fun c85 => ?_) (fun c85 => ?_)
              ·
                have d85 : z_14.toInt ≥ xr_fewest_43.toInt := my_ge c85 rfl rfl
                obtain ⟨z_15, ez_15⟩ : ∃ y : Int32, y = x + (-1) := ⟨_, rfl⟩
                try have tz_15 : z_15.toInt = x.toInt + (-1) := by rw [ez_15]; exact my_addI rfl (by decide +kernel) (by omega) (by omega)
                refine lv_iinc (v := z_15) (lv' := [(7, .int z_15), (8, .int z_10), (6, .int z_4), (4, .long r_1), (0, .ref xr), (1, .int 0), (2, .int o9), (3, .int u9)]) hx hb dX2_tryBits_111 hl (k := 1) rfl (by rw [ez_15]; rfl) (by decide) rfl (fun ls hl => ?_)
                refine lv_goto (tgt := 43) hx hb dX2_tryBits_114 (by decide) ?_
                exact ih43  z_15 xr_size_43 xr_variedCount_43 xr_fewest_43 xr_known_43 r2_43 r3_43 r4_43 w1_43 w2_43 w3_43 w4_43 w5_43 w6_43 w7_43 (by omega) (by first | assumption | omega | decide +kernel) (by first | assumption | omega | decide +kernel) (by first | assumption | omega | decide +kernel) (by first | assumption | omega | decide +kernel) (by first | assumption | omega | decide +kernel) (by first | assumption | omega | decide +kernel) _ _ ls hP hD hS (lv_sub hl [0, 2, 3, 4, 5, 6, 7] rfl)
              ·
                have d85 : z_14.toInt < xr_fewest_43.toInt := my_nge c85 rfl rfl
                refine lv_aload_n hx hb dX2_tryBits_88 rfl (lv_at hl 4 rfl) ?_
                refine va_get (ci := 2) (v := .ref r3) (C := RX2) (T := TX2) (N := 9) hx hb hts hi2 hown hK hP 0 rfl rfl 2 (by decide) fl20 (fun _ h9 => h9) rfl dX2_tryBits_89 ?_
                refine lv_iload_n hx hb dX2_tryBits_92 rfl (lv_at hl 5 rfl) ?_
                refine lv_iload hx hb dX2_tryBits_93 (lv_at hl 1 rfl) ?_
                refine va_iast hx hb hK hP hD hS 3 0 rfl rfl (vp_in_nI (n := 0) (by omega) (by omega)) dX2_tryBits_95 (fun H locs hP hD hS => ?_)
                obtain ⟨g_16, eg_16⟩ : ∃ g : Nat → Int32, g = upd r3_43 0 x := ⟨_, rfl⟩
                have eU : upd r3_43 (0 : Int32).toNatClampNeg x = g_16 := by rw [eg_16, show (0 : Int32).toNatClampNeg = 0 from by decide +kernel]
                rw [eU] at hP hD
                have hP : va_P D vwCl (wl_k_X2_tryBits_0 cI cJ cK xr r1 r2 r3 r4 r5 w0 w1 w2 w3 w4 w5 w6 w7 (nI xr_size_43) (nI xr_variedCount_43) xr_fewest_43 xr_known_43 r2_43 g_16 r4_43 wf0 w1_43 w2_43 w3_43 w4_43 w5_43 w6_43 w7_43) H := hP
                have hD : va_D A (wl_k_X2_tryBits_0 cI cJ cK xr r1 r2 r3 r4 r5 w0 w1 w2 w3 w4 w5 w6 w7 (nI xr_size_43) (nI xr_variedCount_43) xr_fewest_43 xr_known_43 r2_43 g_16 r4_43 wf0 w1_43 w2_43 w3_43 w4_43 w5_43 w6_43 w7_43) := hD
                refine lv_aload_n hx hb dX2_tryBits_96 rfl (lv_at hl 4 rfl) ?_
                refine lv_iload_n hx hb dX2_tryBits_97 rfl (lv_at hl 5 rfl) ?_
                refine lv_iload_n hx hb dX2_tryBits_98 rfl (lv_at hl 6 rfl) ?_
                refine lv_iconst (v := 1) hx hb dX2_tryBits_99 (by decide +kernel) ?_
                refine lv_iload hx hb dX2_tryBits_100 (lv_at hl 1 rfl) ?_
                refine lv_ishl hx hb dX2_tryBits_102 ?_
                refine lv_topi (fun z_17 ez_17 => ?_)
                refine lv_iconst (v := (-1)) hx hb dX2_tryBits_103 (by decide +kernel) ?_
                refine lv_ixor hx hb dX2_tryBits_104 ?_
                refine lv_topi (fun z_18 ez_18 => ?_)
                refine lv_iand hx hb dX2_tryBits_105 ?_
                refine lv_topi (fun z_19 ez_19 => ?_)
                refine lv_iload hx hb dX2_tryBits_106 (lv_at hl 0 rfl) ?_
                refine my_goVS (wc := (wl_k_X2_takeBit_0 cI cJ cK xr r1 r2 r3 r4 r5 w0 w1 w2 w3 w4 w5 w6 w7 (nI xr_size_43) (nI xr_variedCount_43) xr_fewest_43 xr_known_43 r2_43 g_16 r4_43 wf0 w1_43 w2_43 w3_43 w4_43 w5_43 w6_43 w7_43)) hP hD hS hA [0, 1, 2, 3, 4, 5, 6, 7, 8, 9, 10, 11, 12] rfl [some 0, some 1, some 2, some 3, some 4, some 5, some 6, some 7, some 8, some 9, some 10, some 11, some 12] (by decide +kernel) (my_cV (As := [.int 0, .int z_19, .int z_10]) (rest := []) (ci := 2) (wc := (wl_k_X2_takeBit_0 cI cJ cK xr r1 r2 r3 r4 r5 w0 w1 w2 w3 w4 w5 w6 w7 (nI xr_size_43) (nI xr_variedCount_43) xr_fewest_43 xr_known_43 r2_43 g_16 r4_43 wf0 w1_43 w2_43 w3_43 w4_43 w5_43 w6_43 w7_43)) ⟨hx, hb, hml, hown, hts⟩ (cwV 3 hts gX2_tryBits_X2_takeBit rfl rfl rfl (by decide +kernel) ⟨Nat.le_of_ble_eq_true rfl, Nat.le_of_ble_eq_true rfl⟩) hN hK hP hD [0, 1, 2, 3, 4, 5, 6, 7, 8, 9, 10, 11, 12] rfl (by decide) rfl 0 rfl rfl rfl rfl hl.1 rfl (Nat.le_of_ble_eq_true rfl) dX2_tryBits_108 ⟨Nat.le_of_ble_eq_true rfl, Nat.le_of_ble_eq_true rfl⟩  ((k_X2_takeBit_0 l D cI cJ cK xr r1 r2 r3 r4 r5 w0 w1 w2 w3 w4 w5 w6 w7 xr_size_43 xr_variedCount_43 xr_fewest_43 xr_known_43 r2_43 g_16 r4_43 wf0 w1_43 w2_43 w3_43 w4_43 w5_43 w6_43 w7_43 z_19 z_10 (by first | assumption | omega | decide +kernel) (by first | assumption | omega | decide +kernel)) _)) (fun u H locs hp hPD hS => ?_)
                obtain ⟨rz_20, rv_21, rw_22, rk_23, ro_24, rt_25, rb_26, wf1_27, wf2_28, wf3_29, wf4_30, wf5_31, wf6_32, wf7_33, rfl, hhz_rz_34, hhz_rv_35, hv_36, hz_37⟩ := hp
                obtain ⟨hP, hD⟩ := hPD rfl
                have hP : va_P D vwCl (wl_k_X2_tryBits_0 cI cJ cK xr r1 r2 r3 r4 r5 w0 w1 w2 w3 w4 w5 w6 w7 (nI rz_20) (nI rv_21) rw_22 rk_23 ro_24 rt_25 rb_26 wf0 wf1_27 wf2_28 wf3_29 wf4_30 wf5_31 wf6_32 wf7_33) H := hP
                have hD : va_D A (wl_k_X2_tryBits_0 cI cJ cK xr r1 r2 r3 r4 r5 w0 w1 w2 w3 w4 w5 w6 w7 (nI rz_20) (nI rv_21) rw_22 rk_23 ro_24 rt_25 rb_26 wf0 wf1_27 wf2_28 wf3_29 wf4_30 wf5_31 wf6_32 wf7_33) := hD
                obtain ⟨z_38, ez_38⟩ : ∃ y : Int32, y = x + (-1) := ⟨_, rfl⟩
                try have tz_38 : z_38.toInt = x.toInt + (-1) := by rw [ez_38]; exact my_addI rfl (by decide +kernel) (by omega) (by omega)
                refine lv_iinc (v := z_38) (lv' := [(7, .int z_38), (8, .int z_10), (6, .int z_4), (4, .long r_1), (0, .ref xr), (1, .int 0), (2, .int o9), (3, .int u9)]) hx hb dX2_tryBits_111 hl (k := 1) rfl (by rw [ez_38]; rfl) (by decide) rfl (fun ls hl => ?_)
                refine lv_goto (tgt := 43) hx hb dX2_tryBits_114 (by decide) ?_
                exact ih43  z_38 rz_20 rv_21 rw_22 rk_23 ro_24 rt_25 rb_26 wf1_27 wf2_28 wf3_29 wf4_30 wf5_31 wf6_32 wf7_33 (by omega) (by first | assumption | omega | decide +kernel) (by first | assumption | omega | decide +kernel) (by first | assumption | omega | decide +kernel) (by first | assumption | omega | decide +kernel) (by first | assumption | omega | decide +kernel) (by first | assumption | omega | decide +kernel) _ _ ls hP hD hS (lv_sub hl [0, 2, 3, 4, 5, 6, 7] rfl)
      have ec_39 : (7 : Int32).toInt = 7 := by decide +kernel
      exact loop43 ((((7 : Int32).toInt + 1).toNat) + 1) (7 : Int32) rz rv rw rk ro rt rb wf1 wf2 wf3 wf4 wf5 wf6 wf7 (Nat.lt_succ_self _) (by first | assumption | omega | decide +kernel) (by first | assumption | omega | decide +kernel) (by first | assumption | omega | decide +kernel) (by first | assumption | omega | decide +kernel) (by first | assumption | omega | decide +kernel) (by first | assumption | omega | decide +kernel) _ _ ls hP hD hS (lv_sub hl [0, 1, 2, 3, 4, 5, 6] rfl)
    ·
      exact absurd c11 (by decide +kernel)
