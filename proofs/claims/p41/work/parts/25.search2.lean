set_option maxHeartbeats 4000000 in
set_option maxRecDepth 100000 in
theorem kb_J6_bitCount_0f7a4 (l : Launch) (D : va_G) (cI cJ cK : ClassId) (v : Nat) (hv : v ≤ 255) : cpI l yJ6_bitCount_0f7a4 wsJ6_bitCount_0f7a4 ({ frames := 0, cells := 0, slots := 0, locals := 0 } : Room) D (tyIJ cI cJ cK) [.int (nI v)] [] (fun (r : Int32) => ∃ (k' : Nat), r = nI k' ∧ za v 8 + k' = 8) := by
  refine cpI.of (cc := cJ6_bitCount_0f7a4) (maxL := 1) (ret := (some .int)) (by decide) rfl (Nat.le_of_ble_eq_true rfl) ?_
  intro p e s m below meth c ls hx hb hr hts hown hml hlocks hname hK hN hP hl
  have hl : lv_has ls 1 [(0, .int (nI v))] := hl
  have hown : s.vm.findClass RJ6 = some m.cls := hown
  refine lv_iload_n hx hb dJ6_bitCount_0f7a4_0 rfl (lv_at hl 0 rfl) ?_
  refine lv_iload_n hx hb dJ6_bitCount_0f7a4_1 rfl (lv_at hl 0 rfl) ?_
  refine lv_iconst (v := 1) hx hb dJ6_bitCount_0f7a4_2 (by decide +kernel) ?_
  obtain ⟨z_1, ez_1⟩ : ∃ z : Int32, ((nI v).toUInt32 >>> ((1 : Int32).toUInt32 &&& Int32.toUInt32 31)).toInt32 = z := ⟨_, rfl⟩
  refine lv_iushr hx hb dJ6_bitCount_0f7a4_3 ez_1 ?_
  refine lv_ldcw (v := 1431655765) hx hb hown (hts (.constant RJ6 265 (1431655765)) (by decide +kernel)) dJ6_bitCount_0f7a4_4 ?_
  refine lv_iand hx hb dJ6_bitCount_0f7a4_7 ?_
  refine lv_topi (fun z_2 ez_2 => ?_)
  have hbz_2 : 0 ≤ z_2.toInt ∧ z_2.toInt ≤ 1431655765 := by rw [ez_2]; exact my_andR (by decide +kernel) (by decide +kernel)
  refine lv_isub hx hb dJ6_bitCount_0f7a4_8 ?_
  refine lv_topi (fun z_3 ez_3 => ?_)
  try have tz_3 : z_3.toInt = ((v : Nat) : Int) - z_2.toInt := by rw [ez_3]; exact my_subI (nI_toInt (by omega)) rfl (by omega) (by omega)
  refine lv_istore_n (lv' := [(0, .int z_3)]) hx hb dJ6_bitCount_0f7a4_9 rfl hl (by decide) rfl (fun ls hl => ?_)
  refine lv_iload_n hx hb dJ6_bitCount_0f7a4_10 rfl (lv_at hl 0 rfl) ?_
  refine lv_ldcw (v := 858993459) hx hb hown (hts (.constant RJ6 266 (858993459)) (by decide +kernel)) dJ6_bitCount_0f7a4_11 ?_
  refine lv_iand hx hb dJ6_bitCount_0f7a4_14 ?_
  refine lv_topi (fun z_4 ez_4 => ?_)
  have hbz_4 : 0 ≤ z_4.toInt ∧ z_4.toInt ≤ 858993459 := by rw [ez_4]; exact my_andR (by decide +kernel) (by decide +kernel)
  refine lv_iload_n hx hb dJ6_bitCount_0f7a4_15 rfl (lv_at hl 0 rfl) ?_
  refine lv_iconst (v := 2) hx hb dJ6_bitCount_0f7a4_16 (by decide +kernel) ?_
  obtain ⟨z_5, ez_5⟩ : ∃ z : Int32, (z_3.toUInt32 >>> ((2 : Int32).toUInt32 &&& Int32.toUInt32 31)).toInt32 = z := ⟨_, rfl⟩
  refine lv_iushr hx hb dJ6_bitCount_0f7a4_17 ez_5 ?_
  refine lv_ldcw (v := 858993459) hx hb hown (hts (.constant RJ6 266 (858993459)) (by decide +kernel)) dJ6_bitCount_0f7a4_18 ?_
  refine lv_iand hx hb dJ6_bitCount_0f7a4_21 ?_
  refine lv_topi (fun z_6 ez_6 => ?_)
  have hbz_6 : 0 ≤ z_6.toInt ∧ z_6.toInt ≤ 858993459 := by rw [ez_6]; exact my_andR (by decide +kernel) (by decide +kernel)
  refine lv_iadd hx hb dJ6_bitCount_0f7a4_22 ?_
  refine lv_topi (fun z_7 ez_7 => ?_)
  try have tz_7 : z_7.toInt = z_4.toInt + z_6.toInt := by rw [ez_7]; exact my_addI rfl rfl (by omega) (by omega)
  refine lv_istore_n (lv' := [(0, .int z_7)]) hx hb dJ6_bitCount_0f7a4_23 rfl hl (by decide) rfl (fun ls hl => ?_)
  refine lv_iload_n hx hb dJ6_bitCount_0f7a4_24 rfl (lv_at hl 0 rfl) ?_
  refine lv_iload_n hx hb dJ6_bitCount_0f7a4_25 rfl (lv_at hl 0 rfl) ?_
  refine lv_iconst (v := 4) hx hb dJ6_bitCount_0f7a4_26 (by decide +kernel) ?_
  obtain ⟨z_8, ez_8⟩ : ∃ z : Int32, (z_7.toUInt32 >>> ((4 : Int32).toUInt32 &&& Int32.toUInt32 31)).toInt32 = z := ⟨_, rfl⟩
  refine lv_iushr hx hb dJ6_bitCount_0f7a4_27 ez_8 ?_
  refine lv_iadd hx hb dJ6_bitCount_0f7a4_28 ?_
  refine lv_topi (fun z_9 ez_9 => ?_)
  try have tz_9 : z_9.toInt = z_7.toInt + z_8.toInt := by rw [ez_9]; exact my_addI rfl rfl (by omega) (by omega)
  refine lv_ldcw (v := 252645135) hx hb hown (hts (.constant RJ6 267 (252645135)) (by decide +kernel)) dJ6_bitCount_0f7a4_29 ?_
  refine lv_iand hx hb dJ6_bitCount_0f7a4_32 ?_
  refine lv_topi (fun z_10 ez_10 => ?_)
  have hbz_10 : 0 ≤ z_10.toInt ∧ z_10.toInt ≤ 252645135 := by rw [ez_10]; exact my_andR (by decide +kernel) (by decide +kernel)
  refine lv_istore_n (lv' := [(0, .int z_10)]) hx hb dJ6_bitCount_0f7a4_33 rfl hl (by decide) rfl (fun ls hl => ?_)
  refine lv_iload_n hx hb dJ6_bitCount_0f7a4_34 rfl (lv_at hl 0 rfl) ?_
  refine lv_iload_n hx hb dJ6_bitCount_0f7a4_35 rfl (lv_at hl 0 rfl) ?_
  refine lv_bipush (v := 8) hx hb dJ6_bitCount_0f7a4_36 (by decide +kernel) ?_
  obtain ⟨z_11, ez_11⟩ : ∃ z : Int32, (z_10.toUInt32 >>> ((8 : Int32).toUInt32 &&& Int32.toUInt32 31)).toInt32 = z := ⟨_, rfl⟩
  refine lv_iushr hx hb dJ6_bitCount_0f7a4_38 ez_11 ?_
  refine lv_iadd hx hb dJ6_bitCount_0f7a4_39 ?_
  refine lv_topi (fun z_12 ez_12 => ?_)
  try have tz_12 : z_12.toInt = z_10.toInt + z_11.toInt := by rw [ez_12]; exact my_addI rfl rfl (by omega) (by omega)
  refine lv_istore_n (lv' := [(0, .int z_12)]) hx hb dJ6_bitCount_0f7a4_40 rfl hl (by decide) rfl (fun ls hl => ?_)
  refine lv_iload_n hx hb dJ6_bitCount_0f7a4_41 rfl (lv_at hl 0 rfl) ?_
  refine lv_iload_n hx hb dJ6_bitCount_0f7a4_42 rfl (lv_at hl 0 rfl) ?_
  refine lv_bipush (v := 16) hx hb dJ6_bitCount_0f7a4_43 (by decide +kernel) ?_
  obtain ⟨z_13, ez_13⟩ : ∃ z : Int32, (z_12.toUInt32 >>> ((16 : Int32).toUInt32 &&& Int32.toUInt32 31)).toInt32 = z := ⟨_, rfl⟩
  refine lv_iushr hx hb dJ6_bitCount_0f7a4_45 ez_13 ?_
  refine lv_iadd hx hb dJ6_bitCount_0f7a4_46 ?_
  refine lv_topi (fun z_14 ez_14 => ?_)
  try have tz_14 : z_14.toInt = z_12.toInt + z_13.toInt := by rw [ez_14]; exact my_addI rfl rfl (by omega) (by omega)
  refine lv_istore_n (lv' := [(0, .int z_14)]) hx hb dJ6_bitCount_0f7a4_47 rfl hl (by decide) rfl (fun ls hl => ?_)
  refine lv_iload_n hx hb dJ6_bitCount_0f7a4_48 rfl (lv_at hl 0 rfl) ?_
  refine lv_bipush (v := 63) hx hb dJ6_bitCount_0f7a4_49 (by decide +kernel) ?_
  refine lv_iand hx hb dJ6_bitCount_0f7a4_51 ?_
  refine lv_topi (fun z_15 ez_15 => ?_)
  have hbz_15 : 0 ≤ z_15.toInt ∧ z_15.toInt ≤ 63 := by rw [ez_15]; exact my_andR (by decide +kernel) (by decide +kernel)
  exact my_rpI hx hb hr hlocks (⟨(8 - za v 8), (by subst_vars; exact zbc_255 v (by omega)), (by have h9 := za_le8 v (by omega); omega)⟩) dJ6_bitCount_0f7a4_52
abbrev wl_k_X2_fillOrder (cI cJ cK : ClassId) (xr : Nat) (r1 : Nat) (r2 : Nat) (r3 : Nat) (r4 : Nat) (r5 : Nat) (v0_ : Int32) (v1_ : Int32) (v2_ : Int32) (v3_ : Int32) (v4_ : Nat → Int32) (v5_ : Nat → Int32) : va_W := [(xr, .inr (2, [.ref r1, .ref r2, .ref r3, .ref r4, .ref r5, .int v0_, .int v1_, .int v2_, .int v3_])), (r4, .inl (cI, 8, .inl v4_)), (r5, .inl (cI, 8, .inl v5_))]
set_option maxHeartbeats 4000000 in
set_option maxRecDepth 100000 in
theorem k_X2_fillOrder (l : Launch) (D : va_G) (cI cJ cK : ClassId) (xr : Nat) (r1 : Nat) (r2 : Nat) (r3 : Nat) (r4 : Nat) (r5 : Nat) (rz : Nat) (rv : Nat) (rw : Int32) (rk : Int32) (rb : Nat → Int32) (rd : Nat → Int32) (v : Nat) (hz_rz : rz ≤ 64) (hz_rv : rv ≤ 8) (hv : v ≤ 255) (hp : za v 8 + rv = 8) : ctV l yX2_fillOrder wsX2_fillOrder ({ frames := 2, cells := 0, slots := 0, locals := 120 } : Room) D (tyIJ cI cJ cK) [.ref xr, .int (nI v)] (wl_k_X2_fillOrder cI cJ cK xr r1 r2 r3 r4 r5 (nI rz) (nI rv) rw rk rb rd) (fun (u : va_W) => ∃ (rd' : Nat → Int32), u = (wl_k_X2_fillOrder cI cJ cK xr r1 r2 r3 r4 r5 (nI rz) (nI rv) rw rk rb rd')) := by
  refine ctV.of (cc := cX2_fillOrder) (maxL := 5) (ret := none) (by decide) rfl (Nat.le_of_ble_eq_true rfl) ?_
  intro p e s m below meth c ls A hx hb hr hts hown hml hlocks hname hA hK hN hP hD hS hl
  have hl : lv_has ls 5 [(0, .ref xr), (1, .int (nI v))] := hl
  have hown : s.vm.findClass RX2 = some m.cls := hown
  have hi2 : ∀ w ∈ u_ws RX2 TX2 9, w ∈ wsX2_fillOrder := by decide +kernel
  have fl24 := hts (.fieldLink RX2 24 "PlaneColumn$OrderSearch" "best" "[I") (by decide +kernel)
  have fl27 := hts (.fieldLink RX2 27 "PlaneColumn$OrderSearch" "order" "[I") (by decide +kernel)
  have fl34 := hts (.fieldLink RX2 34 "PlaneColumn$OrderSearch" "variedCount" "I") (by decide +kernel)
  refine lv_iconst (v := 0) hx hb dX2_fillOrder_0 (by decide +kernel) ?_
  refine lv_istore_n (lv' := [(2, .int 0), (0, .ref xr), (1, .int (nI v))]) hx hb dX2_fillOrder_1 rfl hl (by decide) rfl (fun ls hl => ?_)
  refine lv_iconst (v := 0) hx hb dX2_fillOrder_2 (by decide +kernel) ?_
  refine lv_istore_n (lv' := [(3, .int 0), (2, .int 0), (0, .ref xr), (1, .int (nI v))]) hx hb dX2_fillOrder_3 rfl hl (by decide) rfl (fun ls hl => ?_)
  refine lv_bipush (v := 7) hx hb dX2_fillOrder_4 (by decide +kernel) ?_
  refine lv_istore (lv' := [(4, .int 7), (3, .int 0), (2, .int 0), (0, .ref xr), (1, .int (nI v))]) hx hb dX2_fillOrder_6 hl (by decide) rfl (fun ls hl => ?_)
  have loop8 : ∀ (n9 : Nat) (x : Int32) (t : Nat) (a : Nat) (r5_8 : Nat → Int32), (x.toInt + 1).toNat < n9 → (a ≤ 8) → (t ≤ 8) → (-1 ≤ x.toInt) → (x.toInt ≤ 7) → (a = za v (7 - x.toInt).toNat + t) → (t ≤ rv) → ∀ (H : Heap) (locs : List Loc) (ls : Array Slot), va_P D vwCl (wl_k_X2_fillOrder cI cJ cK xr r1 r2 r3 r4 r5 (nI rz) (nI rv) rw rk rb r5_8) H → va_D A (wl_k_X2_fillOrder cI cJ cK xr r1 r2 r3 r4 r5 (nI rz) (nI rv) rw rk rb r5_8) → va_S A s.heap H locs → lv_has ls 5 [(4, .int x), (3, .int (nI t)), (2, .int (nI a)), (0, .ref xr), (1, .int (nI v))] → W p l e ({ frames := 2, cells := 0, slots := 0, locals := 120 } : Room) s m [.ref xr, .int (nI v)].toArray below meth c H locs 0 0 (MQ below (va_Qv (fun (u : va_W) => ∃ (rd' : Nat → Int32), u = (wl_k_X2_fillOrder cI cJ cK xr r1 r2 r3 r4 r5 (nI rz) (nI rv) rw rk rb rd')) (my_B D (tyIJ cI cJ cK) A) A) [.ref xr, .int (nI v)].toArray s 0 0 A) (F0 m 8 ls []) := by
    intro n9
    induction n9 with
    | zero =>
      intro x t a r5_8 hn9
      exact absurd hn9 (Nat.not_lt_zero _)
    | succ n9 ih8 =>
      intro x t a r5_8 hn9 hk_a hk_t hx0 hx1 ha ht H locs ls hP hD hS hl
      refine lv_iload hx hb dX2_fillOrder_8 (lv_at hl 0 rfl) ?_
      refine lv_if_lt (tgt := 79) hx hb dX2_fillOrder_10 (by decide) (fun c10 => ?_) (fun c10 => ?_)
      ·
        have d10 : x.toInt < (0 : Int) := my_lt c10 rfl (by decide +kernel)
        have hze : (7 - x.toInt).toNat = 8 := (by omega)
        rw [hze] at ha
        refine lv_aload_n hx hb dX2_fillOrder_79 rfl (lv_at hl 3 rfl) ?_
        refine va_get (ci := 2) (v := .ref r4) (C := RX2) (T := TX2) (N := 9) hx hb hts hi2 hown hK hP 0 rfl rfl 3 (by decide) fl24 (fun _ h9 => h9) rfl dX2_fillOrder_80 ?_
        refine lv_iload_n hx hb dX2_fillOrder_83 rfl (lv_at hl 1 rfl) ?_
        refine lv_aload_n hx hb dX2_fillOrder_84 rfl (lv_at hl 3 rfl) ?_
        refine va_get (ci := 2) (v := .ref r5) (C := RX2) (T := TX2) (N := 9) hx hb hts hi2 hown hK hP 0 rfl rfl 4 (by decide) fl27 (fun _ h9 => h9) rfl dX2_fillOrder_85 ?_
        refine lv_iload_n hx hb dX2_fillOrder_88 rfl (lv_at hl 2 rfl) ?_
        refine lv_aload_n hx hb dX2_fillOrder_89 rfl (lv_at hl 3 rfl) ?_
        refine va_get (ci := 2) (v := .int (nI rv)) (C := RX2) (T := TX2) (N := 9) hx hb hts hi2 hown hK hP 0 rfl rfl 6 (by decide) fl34 (fun _ h9 => h9) rfl dX2_fillOrder_90 ?_
        refine lv_iload_n hx hb dX2_fillOrder_93 rfl (lv_at hl 1 rfl) ?_
        refine lv_isub hx hb dX2_fillOrder_94 ?_
        refine my_eqi (y := nI (rv - t)) (my_subN (a := rv) (b := t) (by omega)) ?_
        refine va_copyi hx hb (hml.trans hl.1.symm) hown (hts (.methodLink RX2 75 arraycopyName) (by decide +kernel)) (hts (.native arraycopyName) (by decide +kernel)) (hts (.static arraycopyName) (by decide +kernel)) (hts (.initialized "java/lang/System") (by decide +kernel)) hK hP hD hS 1 2 0 0 rfl rfl rfl rfl rfl (nI_nneg (by omega)) (nI_nneg (by omega)) (nI_nneg (by omega)) (by rw [show (nI t : Int32).toNatClampNeg = t from (nI_clamp (by omega)), show (nI (rv - t) : Int32).toNatClampNeg = rv - t from (nI_clamp (by omega))]; omega) (by rw [show (nI a : Int32).toNatClampNeg = a from (nI_clamp (by omega)), show (nI (rv - t) : Int32).toNatClampNeg = rv - t from (nI_clamp (by omega))]; omega) (fun _ _ => rfl) (Nat.le_of_ble_eq_true rfl) (Nat.le_of_ble_eq_true rfl) dX2_fillOrder_95 (fun H locs hP hD hS => ?_)
        obtain ⟨g_1, eg_1⟩ : ∃ g : Nat → Int32, g = va_cpy rb r5_8 t a (rv - t) := ⟨_, rfl⟩
        have eU : va_cpy rb r5_8 (nI t : Int32).toNatClampNeg (nI a : Int32).toNatClampNeg (nI (rv - t) : Int32).toNatClampNeg = g_1 := by rw [eg_1, show (nI t : Int32).toNatClampNeg = t from (nI_clamp (by omega)), show (nI a : Int32).toNatClampNeg = a from (nI_clamp (by omega)), show (nI (rv - t) : Int32).toNatClampNeg = rv - t from (nI_clamp (by omega))]
        rw [eU] at hP hD
        have hP : va_P D vwCl (wl_k_X2_fillOrder cI cJ cK xr r1 r2 r3 r4 r5 (nI rz) (nI rv) rw rk rb g_1) H := hP
        have hD : va_D A (wl_k_X2_fillOrder cI cJ cK xr r1 r2 r3 r4 r5 (nI rz) (nI rv) rw rk rb g_1) := hD
        exact my_retV hx hb hr hlocks hK hS (wl_k_X2_fillOrder cI cJ cK xr r1 r2 r3 r4 r5 (nI rz) (nI rv) rw rk rb g_1) hP hD (⟨g_1, rfl⟩) dX2_fillOrder_98
      ·
        have d10 : x.toInt ≥ (0 : Int) := my_nlt c10 rfl (by decide +kernel)
        refine lv_iload_n hx hb dX2_fillOrder_13 rfl (lv_at hl 4 rfl) ?_
        refine lv_iload hx hb dX2_fillOrder_14 (lv_at hl 0 rfl) ?_
        obtain ⟨w_2, ew_2, hw_2⟩ : ∃ w : Nat, x = nI w ∧ (w : Int) = (x : Int32).toInt := my_natE (by omega)
        refine my_eqi (y := nI w_2) ew_2 ?_
        refine lv_ishr hx hb dX2_fillOrder_16 ?_
        refine my_eqi (y := nI (v / 2 ^ w_2)) (my_shrG (by omega) (by omega)) ?_
        refine lv_iconst (v := 1) hx hb dX2_fillOrder_17 (by decide +kernel) ?_
        refine lv_iand hx hb dX2_fillOrder_18 ?_
        refine my_eqi (y := nI ((v / 2 ^ w_2) % 2)) (my_maskN _ 1) ?_
        have hz9 := za_step (v := v) hw_2 (by omega) hv
        refine lv_if_ne (tgt := 73) hx hb dX2_fillOrder_19 (by decide) (fun c19 => ?_) (fun c19 => ?_)
        ·
          have d19 : (((v / 2 ^ w_2) % 2 : Nat) : Int) ≠ (0 : Int) := my_ne c19 (nI_toInt (by omega)) (by decide +kernel)
          obtain ⟨z_3, ez_3⟩ : ∃ y : Int32, y = x + (-1) := ⟨_, rfl⟩
          try have tz_3 : z_3.toInt = x.toInt + (-1) := by rw [ez_3]; exact my_addI rfl (by decide +kernel) (by omega) (by omega)
          refine lv_iinc (v := z_3) (lv' := [(4, .int z_3), (3, .int (nI t)), (2, .int (nI a)), (0, .ref xr), (1, .int (nI v))]) hx hb dX2_fillOrder_73 hl (k := 0) rfl (by rw [ez_3]; rfl) (by decide) rfl (fun ls hl => ?_)
          refine lv_goto (tgt := 8) hx hb dX2_fillOrder_76 (by decide) ?_
          exact ih8  z_3 t a r5_8 (by omega) (by first | assumption | omega | decide +kernel) (by first | assumption | omega | decide +kernel) (by first | assumption | omega | decide +kernel) (by first | assumption | omega | decide +kernel) (by rw [show z_3.toInt = x.toInt - 1 from (by omega)]; omega) (by first | assumption | omega | decide +kernel) _ _ ls hP hD hS (lv_sub hl [0, 1, 2, 3, 4] rfl)
        ·
          have d19 : (((v / 2 ^ w_2) % 2 : Nat) : Int) = (0 : Int) := my_eq c19 (nI_toInt (by omega)) (by decide +kernel)
          have loop22 : ∀ (n9 : Nat) (t2 : Nat) (a2 : Nat) (r5_22 : Nat → Int32), rv - t2 < n9 → (a2 ≤ 8) → (t2 ≤ 8) → (a2 = za v (7 - x.toInt).toNat + t2) → (t2 ≤ rv) → ∀ (H : Heap) (locs : List Loc) (ls : Array Slot), va_P D vwCl (wl_k_X2_fillOrder cI cJ cK xr r1 r2 r3 r4 r5 (nI rz) (nI rv) rw rk rb r5_22) H → va_D A (wl_k_X2_fillOrder cI cJ cK xr r1 r2 r3 r4 r5 (nI rz) (nI rv) rw rk rb r5_22) → va_S A s.heap H locs → lv_has ls 5 [(4, .int x), (3, .int (nI t2)), (2, .int (nI a2)), (0, .ref xr), (1, .int (nI v))] → W p l e ({ frames := 2, cells := 0, slots := 0, locals := 120 } : Room) s m [.ref xr, .int (nI v)].toArray below meth c H locs 0 0 (MQ below (va_Qv (fun (u : va_W) => ∃ (rd' : Nat → Int32), u = (wl_k_X2_fillOrder cI cJ cK xr r1 r2 r3 r4 r5 (nI rz) (nI rv) rw rk rb rd')) (my_B D (tyIJ cI cJ cK) A) A) [.ref xr, .int (nI v)].toArray s 0 0 A) (F0 m 22 ls []) := by
            intro n9
            induction n9 with
            | zero =>
              intro t2 a2 r5_22 hn9
              exact absurd hn9 (Nat.not_lt_zero _)
            | succ n9 ih22 =>
              intro t2 a2 r5_22 hn9 hk_a2 hk_t2 ha2 ht2 H locs ls hP hD hS hl
              refine lv_iload_n hx hb dX2_fillOrder_22 rfl (lv_at hl 1 rfl) ?_
              refine lv_aload_n hx hb dX2_fillOrder_23 rfl (lv_at hl 3 rfl) ?_
              refine va_get (ci := 2) (v := .int (nI rv)) (C := RX2) (T := TX2) (N := 9) hx hb hts hi2 hown hK hP 0 rfl rfl 6 (by decide) fl34 (fun _ h9 => h9) rfl dX2_fillOrder_24 ?_
              refine lv_icmp_ge (tgt := 62) hx hb dX2_fillOrder_27 (by decide) (fun c27 => ?_) (fun c27 => ?_)
              ·
                have d27 : ((t2 : Nat) : Int) ≥ ((rv : Nat) : Int) := my_ge c27 (nI_toInt (by omega)) (nI_toInt (by omega))
                refine lv_aload_n hx hb dX2_fillOrder_62 rfl (lv_at hl 3 rfl) ?_
                refine va_get (ci := 2) (v := .ref r5) (C := RX2) (T := TX2) (N := 9) hx hb hts hi2 hown hK hP 0 rfl rfl 4 (by decide) fl27 (fun _ h9 => h9) rfl dX2_fillOrder_63 ?_
                refine lv_iload_n hx hb dX2_fillOrder_66 rfl (lv_at hl 2 rfl) ?_
                refine lv_iload hx hb dX2_fillOrder_67 (lv_at hl 0 rfl) ?_
                refine va_iast hx hb hK hP hD hS 2 0 rfl rfl (vp_in_nI (by omega) (by omega)) dX2_fillOrder_69 (fun H locs hP hD hS => ?_)
                obtain ⟨g_4, eg_4⟩ : ∃ g : Nat → Int32, g = upd r5_22 a2 x := ⟨_, rfl⟩
                have eU : upd r5_22 (nI a2 : Int32).toNatClampNeg x = g_4 := by rw [eg_4, show (nI a2 : Int32).toNatClampNeg = a2 from nI_clamp (by omega)]
                rw [eU] at hP hD
                have hP : va_P D vwCl (wl_k_X2_fillOrder cI cJ cK xr r1 r2 r3 r4 r5 (nI rz) (nI rv) rw rk rb g_4) H := hP
                have hD : va_D A (wl_k_X2_fillOrder cI cJ cK xr r1 r2 r3 r4 r5 (nI rz) (nI rv) rw rk rb g_4) := hD
                refine lv_iinc (v := nI (a2 + 1)) (lv' := [(2, .int (nI (a2 + 1))), (4, .int x), (3, .int (nI t2)), (0, .ref xr), (1, .int (nI v))]) hx hb dX2_fillOrder_70 hl (k := 2) rfl (my_incN a2 1 (by decide +kernel)) (by decide) rfl (fun ls hl => ?_)
                obtain ⟨z_5, ez_5⟩ : ∃ y : Int32, y = x + (-1) := ⟨_, rfl⟩
                try have tz_5 : z_5.toInt = x.toInt + (-1) := by rw [ez_5]; exact my_addI rfl (by decide +kernel) (by omega) (by omega)
                refine lv_iinc (v := z_5) (lv' := [(4, .int z_5), (2, .int (nI (a2 + 1))), (3, .int (nI t2)), (0, .ref xr), (1, .int (nI v))]) hx hb dX2_fillOrder_73 hl (k := 1) rfl (by rw [ez_5]; rfl) (by decide) rfl (fun ls hl => ?_)
                refine lv_goto (tgt := 8) hx hb dX2_fillOrder_76 (by decide) ?_
                exact ih8  z_5 t2 (a2 + 1) g_4 (by omega) (by first | assumption | omega | decide +kernel) (by first | assumption | omega | decide +kernel) (by first | assumption | omega | decide +kernel) (by first | assumption | omega | decide +kernel) (by rw [show z_5.toInt = x.toInt - 1 from (by omega)]; omega) (by first | assumption | omega | decide +kernel) _ _ ls hP hD hS (lv_sub hl [0, 2, 1, 3, 4] rfl)
              ·
                have d27 : ((t2 : Nat) : Int) < ((rv : Nat) : Int) := my_nge c27 (nI_toInt (by omega)) (nI_toInt (by omega))
                refine lv_aload_n hx hb dX2_fillOrder_30 rfl (lv_at hl 3 rfl) ?_
                refine va_get (ci := 2) (v := .ref r4) (C := RX2) (T := TX2) (N := 9) hx hb hts hi2 hown hK hP 0 rfl rfl 3 (by decide) fl24 (fun _ h9 => h9) rfl dX2_fillOrder_31 ?_
                refine lv_iload_n hx hb dX2_fillOrder_34 rfl (lv_at hl 1 rfl) ?_
                refine va_iald hx hb hK hP 1 0 rfl rfl (vp_in_nI (by omega) (by omega)) dX2_fillOrder_35 ?_
                refine my_eqi (y := rb t2) (congrArg rb (nI_clamp (by omega))) ?_
                refine lv_iload hx hb dX2_fillOrder_36 (lv_at hl 0 rfl) ?_
                refine lv_icmp_le (tgt := 62) hx hb dX2_fillOrder_38 (by decide) (fun c38 => ?_) (fun c38 => ?_)
                ·
                  have d38 : (rb t2).toInt ≤ x.toInt := my_le c38 rfl rfl
                  refine lv_aload_n hx hb dX2_fillOrder_62 rfl (lv_at hl 3 rfl) ?_
                  refine va_get (ci := 2) (v := .ref r5) (C := RX2) (T := TX2) (N := 9) hx hb hts hi2 hown hK hP 0 rfl rfl 4 (by decide) fl27 (fun _ h9 => h9) rfl dX2_fillOrder_63 ?_
                  refine lv_iload_n hx hb dX2_fillOrder_66 rfl (lv_at hl 2 rfl) ?_
                  refine lv_iload hx hb dX2_fillOrder_67 (lv_at hl 0 rfl) ?_
                  refine va_iast hx hb hK hP hD hS 2 0 rfl rfl (vp_in_nI (by omega) (by omega)) dX2_fillOrder_69 (fun H locs hP hD hS => ?_)
                  obtain ⟨g_7, eg_7⟩ : ∃ g : Nat → Int32, g = upd r5_22 a2 x := ⟨_, rfl⟩
                  have eU : upd r5_22 (nI a2 : Int32).toNatClampNeg x = g_7 := by rw [eg_7, show (nI a2 : Int32).toNatClampNeg = a2 from nI_clamp (by omega)]
                  rw [eU] at hP hD
                  have hP : va_P D vwCl (wl_k_X2_fillOrder cI cJ cK xr r1 r2 r3 r4 r5 (nI rz) (nI rv) rw rk rb g_7) H := hP
                  have hD : va_D A (wl_k_X2_fillOrder cI cJ cK xr r1 r2 r3 r4 r5 (nI rz) (nI rv) rw rk rb g_7) := hD
                  refine lv_iinc (v := nI (a2 + 1)) (lv' := [(2, .int (nI (a2 + 1))), (4, .int x), (3, .int (nI t2)), (0, .ref xr), (1, .int (nI v))]) hx hb dX2_fillOrder_70 hl (k := 2) rfl (my_incN a2 1 (by decide +kernel)) (by decide) rfl (fun ls hl => ?_)
                  obtain ⟨z_8, ez_8⟩ : ∃ y : Int32, y = x + (-1) := ⟨_, rfl⟩
                  try have tz_8 : z_8.toInt = x.toInt + (-1) := by rw [ez_8]; exact my_addI rfl (by decide +kernel) (by omega) (by omega)
                  refine lv_iinc (v := z_8) (lv' := [(4, .int z_8), (2, .int (nI (a2 + 1))), (3, .int (nI t2)), (0, .ref xr), (1, .int (nI v))]) hx hb dX2_fillOrder_73 hl (k := 1) rfl (by rw [ez_8]; rfl) (by decide) rfl (fun ls hl => ?_)
                  refine lv_goto (tgt := 8) hx hb dX2_fillOrder_76 (by decide) ?_
                  exact ih8  z_8 t2 (a2 + 1) g_7 (by omega) (by first | assumption | omega | decide +kernel) (by first | assumption | omega | decide +kernel) (by first | assumption | omega | decide +kernel) (by first | assumption | omega | decide +kernel) (by rw [show z_8.toInt = x.toInt - 1 from (by omega)]; omega) (by first | assumption | omega | decide +kernel) _ _ ls hP hD hS (lv_sub hl [0, 2, 1, 3, 4] rfl)
                ·
                  have d38 : (rb t2).toInt > x.toInt := my_nle c38 rfl rfl
                  refine lv_aload_n hx hb dX2_fillOrder_41 rfl (lv_at hl 3 rfl) ?_
                  refine va_get (ci := 2) (v := .ref r5) (C := RX2) (T := TX2) (N := 9) hx hb hts hi2 hown hK hP 0 rfl rfl 4 (by decide) fl27 (fun _ h9 => h9) rfl dX2_fillOrder_42 ?_
                  refine lv_iload_n hx hb dX2_fillOrder_45 rfl (lv_at hl 2 rfl) ?_
                  refine lv_aload_n hx hb dX2_fillOrder_46 rfl (lv_at hl 3 rfl) ?_
                  refine va_get (ci := 2) (v := .ref r4) (C := RX2) (T := TX2) (N := 9) hx hb hts hi2 hown hK hP 0 rfl rfl 3 (by decide) fl24 (fun _ h9 => h9) rfl dX2_fillOrder_47 ?_
                  refine lv_iload_n hx hb dX2_fillOrder_50 rfl (lv_at hl 1 rfl) ?_
                  refine va_iald hx hb hK hP 1 0 rfl rfl (vp_in_nI (by omega) (by omega)) dX2_fillOrder_51 ?_
                  refine my_eqi (y := rb t2) (congrArg rb (nI_clamp (by omega))) ?_
                  refine va_iast hx hb hK hP hD hS 2 0 rfl rfl (vp_in_nI (by omega) (by omega)) dX2_fillOrder_52 (fun H locs hP hD hS => ?_)
                  obtain ⟨g_10, eg_10⟩ : ∃ g : Nat → Int32, g = upd r5_22 a2 (rb t2) := ⟨_, rfl⟩
                  have eU : upd r5_22 (nI a2 : Int32).toNatClampNeg (rb t2) = g_10 := by rw [eg_10, show (nI a2 : Int32).toNatClampNeg = a2 from nI_clamp (by omega)]
                  rw [eU] at hP hD
                  have hP : va_P D vwCl (wl_k_X2_fillOrder cI cJ cK xr r1 r2 r3 r4 r5 (nI rz) (nI rv) rw rk rb g_10) H := hP
                  have hD : va_D A (wl_k_X2_fillOrder cI cJ cK xr r1 r2 r3 r4 r5 (nI rz) (nI rv) rw rk rb g_10) := hD
                  refine lv_iinc (v := nI (a2 + 1)) (lv' := [(2, .int (nI (a2 + 1))), (4, .int x), (3, .int (nI t2)), (0, .ref xr), (1, .int (nI v))]) hx hb dX2_fillOrder_53 hl (k := 2) rfl (my_incN a2 1 (by decide +kernel)) (by decide) rfl (fun ls hl => ?_)
                  refine lv_iinc (v := nI (t2 + 1)) (lv' := [(3, .int (nI (t2 + 1))), (2, .int (nI (a2 + 1))), (4, .int x), (0, .ref xr), (1, .int (nI v))]) hx hb dX2_fillOrder_56 hl (k := 2) rfl (my_incN t2 1 (by decide +kernel)) (by decide) rfl (fun ls hl => ?_)
                  refine lv_goto (tgt := 22) hx hb dX2_fillOrder_59 (by decide) ?_
                  exact ih22  (t2 + 1) (a2 + 1) g_10 (by omega) (by first | assumption | omega | decide +kernel) (by first | assumption | omega | decide +kernel) (by first | assumption | omega | decide +kernel) (by first | assumption | omega | decide +kernel) _ _ ls hP hD hS (lv_sub hl [2, 0, 1, 3, 4] rfl)
          exact loop22 ((rv - t) + 1) t a r5_8 (Nat.lt_succ_self _) (by first | assumption | omega | decide +kernel) (by first | assumption | omega | decide +kernel) (by first | assumption | omega | decide +kernel) (by first | assumption | omega | decide +kernel) _ _ ls hP hD hS (lv_sub hl [0, 1, 2, 3, 4] rfl)
  have ec_11 : (7 : Int32).toInt = 7 := by decide +kernel
  exact loop8 ((((7 : Int32).toInt + 1).toNat) + 1) (7 : Int32) 0 0 rd (Nat.lt_succ_self _) (by first | assumption | omega | decide +kernel) (by first | assumption | omega | decide +kernel) (by first | assumption | omega | decide +kernel) (by first | assumption | omega | decide +kernel) (by show 0 = za v (7 - (7 : Int32).toInt).toNat + 0; rw [show (7 - (7 : Int32).toInt).toNat = 0 from by decide]; rfl) (by first | assumption | omega | decide +kernel) _ _ ls hP hD hS (lv_sub hl [0, 1, 2, 3, 4] rfl)
abbrev wl_kf_X2_search (cI cJ cK : ClassId) (xr : Nat) (r1 : Nat) (r2 : Nat) (r3 : Nat) (r4 : Nat) (r5 : Nat) (w0 : Nat) (w1 : Nat) (w2 : Nat) (w3 : Nat) (w4 : Nat) (w5 : Nat) (w6 : Nat) (w7 : Nat) (xn : Nat) (v0_ : Int32) (v1_ : Int32) (v2_ : Int32) (v3_ : Int32) (v4_ : Nat → Int64) (v5_ : Nat → Int32) (v6_ : Nat → Int32) (v7_ : Nat → Int32) (v8_ : Nat → Int32) (v9_ : Nat → Int64) (v10_ : Nat → Int64) (v11_ : Nat → Int64) (v12_ : Nat → Int64) (v13_ : Nat → Int64) (v14_ : Nat → Int64) (v15_ : Nat → Int64) (v16_ : Nat → Int64) : va_W := [(xr, .inr (2, [.ref r1, .ref r2, .ref r3, .ref r4, .ref r5, .int v0_, .int v1_, .int v2_, .int v3_])), (r1, .inl (cK, 8, .inr (.inr (.inr (.inr (fun j => ([w0, w1, w2, w3, w4, w5, w6, w7] : List Nat)[j]?)))))), (r2, .inl (cJ, 64, .inr (.inl v4_))), (r3, .inl (cI, 8, .inl v5_)), (r4, .inl (cI, 8, .inl v6_)), (r5, .inl (cI, 8, .inl v7_)), (xn, .inl (cI, 64, .inl v8_)), (w0, .inl (cJ, 64, .inr (.inl v9_))), (w1, .inl (cJ, 64, .inr (.inl v10_))), (w2, .inl (cJ, 64, .inr (.inl v11_))), (w3, .inl (cJ, 64, .inr (.inl v12_))), (w4, .inl (cJ, 64, .inr (.inl v13_))), (w5, .inl (cJ, 64, .inr (.inl v14_))), (w6, .inl (cJ, 64, .inr (.inl v15_))), (w7, .inl (cJ, 64, .inr (.inl v16_)))]
set_option maxHeartbeats 4000000 in
set_option maxRecDepth 100000 in
theorem kf_X2_search (l : Launch) (D : va_G) (cI cJ cK : ClassId) (xr : Nat) (r1 : Nat) (r2 : Nat) (r3 : Nat) (r4 : Nat) (r5 : Nat) (w0 : Nat) (w1 : Nat) (w2 : Nat) (w3 : Nat) (w4 : Nat) (w5 : Nat) (w6 : Nat) (w7 : Nat) (xn : Nat) (rz : Nat) (rv : Nat) (rw : Int32) (rk : Int32) (ro : Nat → Int64) (rt : Nat → Int32) (rb : Nat → Int32) (rd : Nat → Int32) (nf : Nat → Int32) (wf0 : Nat → Int64) (wf1 : Nat → Int64) (wf2 : Nat → Int64) (wf3 : Nat → Int64) (wf4 : Nat → Int64) (wf5 : Nat → Int64) (wf6 : Nat → Int64) (wf7 : Nat → Int64) (w : Nat) (hz_rz : rz ≤ 64) (hz_rv : rv ≤ 8) (hR_nf : RB 0 255 nf) (hw : w ≤ 64) (hkn : rk.toInt ≠ 0 → rw = nI (thF nf w)) : ctI l yX2_search wsX2_search ({ frames := 18, cells := 0, slots := 0, locals := 1080 } : Room) D (tyIJ cI cJ cK) [.ref xr, .ref xn, .int (nI w)] (wl_kf_X2_search cI cJ cK xr r1 r2 r3 r4 r5 w0 w1 w2 w3 w4 w5 w6 w7 xn (nI rz) (nI rv) rw rk ro rt rb rd nf wf0 wf1 wf2 wf3 wf4 wf5 wf6 wf7) (fun (r : Int32) (u : va_W) => ∃ (rz' : Nat) (rv' : Nat) (rw' : Int32) (rk' : Int32) (ro' : Nat → Int64) (rt' : Nat → Int32) (rb' : Nat → Int32) (rd' : Nat → Int32) (wf0' : Nat → Int64) (wf1' : Nat → Int64) (wf2' : Nat → Int64) (wf3' : Nat → Int64) (wf4' : Nat → Int64) (wf5' : Nat → Int64) (wf6' : Nat → Int64) (wf7' : Nat → Int64), u = (wl_kf_X2_search cI cJ cK xr r1 r2 r3 r4 r5 w0 w1 w2 w3 w4 w5 w6 w7 xn (nI rz') (nI rv') rw' rk' ro' rt' rb' rd' nf wf0' wf1' wf2' wf3' wf4' wf5' wf6' wf7') ∧ rz' ≤ 64 ∧ rv' ≤ 8 ∧ r = nI (thF nf w) ∧ rw' = nI (thF nf w)) := by
  refine ctI.of (cc := cX2_search) (maxL := 4) (ret := (some .int)) (by decide) rfl (Nat.le_of_ble_eq_true rfl) ?_
  intro p e s m below meth c ls A hx hb hr hts hown hml hlocks hname hA hK hN hP hD hS hl
  have hl : lv_has ls 4 [(0, .ref xr), (1, .ref xn), (2, .int (nI w))] := hl
  have hown : s.vm.findClass RX2 = some m.cls := hown
  have hi2 : ∀ w ∈ u_ws RX2 TX2 9, w ∈ wsX2_search := by decide +kernel
  have fl30 := hts (.fieldLink RX2 30 "PlaneColumn$OrderSearch" "size" "I") (by decide +kernel)
  have fl34 := hts (.fieldLink RX2 34 "PlaneColumn$OrderSearch" "variedCount" "I") (by decide +kernel)
  have fl37 := hts (.fieldLink RX2 37 "PlaneColumn$OrderSearch" "fewest" "I") (by decide +kernel)
  have fl40 := hts (.fieldLink RX2 40 "PlaneColumn$OrderSearch" "known" "Z") (by decide +kernel)
  refine lv_aload_n hx hb dX2_search_0 rfl (lv_at hl 0 rfl) ?_
  refine va_get (ci := 2) (v := .int rk) (C := RX2) (T := TX2) (N := 9) hx hb hts hi2 hown hK hP 0 rfl rfl 8 (by decide) fl40 (fun _ h9 => h9) rfl dX2_search_1 ?_
  refine lv_if_ne (tgt := 88) hx hb dX2_search_4 (by decide) (fun c4 => ?_) (fun c4 => ?_)
  ·
    have d4 : rk.toInt ≠ (0 : Int) := my_ne c4 rfl (by decide +kernel)
    refine lv_aload_n hx hb dX2_search_88 rfl (lv_at hl 0 rfl) ?_
    refine va_get (ci := 2) (v := .int rw) (C := RX2) (T := TX2) (N := 9) hx hb hts hi2 hown hK hP 0 rfl rfl 7 (by decide) fl37 (fun _ h9 => h9) rfl dX2_search_89 ?_
    exact my_retI hx hb hr hlocks hK hS (wl_kf_X2_search cI cJ cK xr r1 r2 r3 r4 r5 w0 w1 w2 w3 w4 w5 w6 w7 xn (nI rz) (nI rv) rw rk ro rt rb rd nf wf0 wf1 wf2 wf3 wf4 wf5 wf6 wf7) hP hD (⟨rz, rv, rw, rk, ro, rt, rb, rd, wf0, wf1, wf2, wf3, wf4, wf5, wf6, wf7, rfl, (by first | assumption | omega | trivial | decide +kernel), (by first | assumption | omega | trivial | decide +kernel), (by first | exact hkn (by omega) | exact th_fin hvv hcd9 hw (by omega) hfw1 (by omega)), (by first | exact hkn (by omega) | exact th_fin hvv hcd9 hw (by omega) hfw1 (by omega))⟩) dX2_search_92
  ·
    have d4 : rk.toInt = (0 : Int) := my_eq c4 rfl (by decide +kernel)
    refine lv_aload_n hx hb dX2_search_7 rfl (lv_at hl 0 rfl) ?_
    refine lv_iload_n hx hb dX2_search_8 rfl (lv_at hl 2 rfl) ?_
    refine va_put (ci := 2) (v := .int (nI w)) (ty := (.int)) (C := RX2) (T := TX2) (N := 9) hx hb hts hi2 tyX2 tyX2_ok nmX2 hown hK hP hD hS 0 rfl rfl 5 (by decide) fl30 (fun _ h9 => h9) rfl (by decide +kernel) rfl rfl (Nat.le_of_ble_eq_true rfl) dX2_search_9 (fun H locs hP hD hS => ?_)
    have hP : va_P D vwCl (wl_kf_X2_search cI cJ cK xr r1 r2 r3 r4 r5 w0 w1 w2 w3 w4 w5 w6 w7 xn (nI w) (nI rv) rw rk ro rt rb rd nf wf0 wf1 wf2 wf3 wf4 wf5 wf6 wf7) H := hP
    have hD : va_D A (wl_kf_X2_search cI cJ cK xr r1 r2 r3 r4 r5 w0 w1 w2 w3 w4 w5 w6 w7 xn (nI w) (nI rv) rw rk ro rt rb rd nf wf0 wf1 wf2 wf3 wf4 wf5 wf6 wf7) := hD
    refine lv_aload_n hx hb dX2_search_12 rfl (lv_at hl 0 rfl) ?_
    refine lv_aload_n hx hb dX2_search_13 rfl (lv_at hl 1 rfl) ?_
    refine my_goIS (wc := (wl_kf_X2_takeLine cI cJ cK xr r1 r2 r3 r4 r5 w0 w1 w2 w3 w4 w5 w6 w7 xn (nI w) (nI rv) rw rk wf0 nf)) hP hD hS hA [0, 1, 7, 6] rfl [some 0, some 1, none, none, none, none, some 3, some 2] (by decide +kernel) (my_cV (As := [.ref xn]) (rest := []) (ci := 2) (wc := (wl_kf_X2_takeLine cI cJ cK xr r1 r2 r3 r4 r5 w0 w1 w2 w3 w4 w5 w6 w7 xn (nI w) (nI rv) rw rk wf0 nf)) ⟨hx, hb, hml, hown, hts⟩ (cwV 1 hts gX2_search_X2_takeLine rfl rfl rfl (by decide +kernel) ⟨Nat.le_of_ble_eq_true rfl, Nat.le_of_ble_eq_true rfl⟩) hN hK hP hD [0, 1, 7, 6] rfl (by decide) rfl 0 rfl rfl rfl rfl hl.1 rfl (Nat.le_of_ble_eq_true rfl) dX2_search_14 ⟨Nat.le_of_ble_eq_true rfl, Nat.le_of_ble_eq_true rfl⟩  ((kf_X2_takeLine l D cI cJ cK xr r1 r2 r3 r4 r5 w0 w1 w2 w3 w4 w5 w6 w7 xn w rv rw rk wf0 nf (by first | assumption | omega | decide +kernel) (by first | assumption | omega | decide +kernel) hR_nf) _)) (fun r u H locs hp hPD hS => ?_)
    obtain ⟨v_1, wf0_2, rfl, rfl, hb_3, hl0, hvv⟩ := hp
    obtain ⟨hP, hD⟩ := hPD rfl
    have hP : va_P D vwCl (wl_kf_X2_search cI cJ cK xr r1 r2 r3 r4 r5 w0 w1 w2 w3 w4 w5 w6 w7 xn (nI w) (nI rv) rw rk ro rt rb rd nf wf0_2 wf1 wf2 wf3 wf4 wf5 wf6 wf7) H := hP
    have hD : va_D A (wl_kf_X2_search cI cJ cK xr r1 r2 r3 r4 r5 w0 w1 w2 w3 w4 w5 w6 w7 xn (nI w) (nI rv) rw rk ro rt rb rd nf wf0_2 wf1 wf2 wf3 wf4 wf5 wf6 wf7) := hD
    refine lv_istore_n (lv' := [(3, .int (nI v_1)), (0, .ref xr), (1, .ref xn), (2, .int (nI w))]) hx hb dX2_search_17 rfl hl (by decide) rfl (fun ls hl => ?_)
    refine lv_aload_n hx hb dX2_search_18 rfl (lv_at hl 1 rfl) ?_
    refine lv_iload_n hx hb dX2_search_19 rfl (lv_at hl 0 rfl) ?_
    refine my_gpI (my_pS (As := [.int (nI v_1)]) (rest := [.ref xr]) ⟨hx, hb, hml, hown, hts⟩ (va_cwS 1 hts gX2_search_J6_bitCount_0f7a4 rfl rfl rfl (by decide +kernel) ⟨Nat.le_of_ble_eq_true rfl, Nat.le_of_ble_eq_true rfl⟩) hN hK hP [] rfl rfl hl.1 rfl (Nat.le_of_ble_eq_true rfl) dX2_search_20 ⟨Nat.le_of_ble_eq_true rfl, Nat.le_of_ble_eq_true rfl⟩  (kb_J6_bitCount_0f7a4 l D cI cJ cK v_1 (by first | assumption | omega | decide +kernel))) (fun r hp => ?_)
    obtain ⟨k_4, rfl, ha_5⟩ := hp
    refine va_put (ci := 2) (v := .int (nI k_4)) (ty := (.int)) (C := RX2) (T := TX2) (N := 9) hx hb hts hi2 tyX2 tyX2_ok nmX2 hown hK hP hD hS 0 rfl rfl 6 (by decide) fl34 (fun _ h9 => h9) rfl (by decide +kernel) rfl rfl (Nat.le_of_ble_eq_true rfl) dX2_search_23 (fun H locs hP hD hS => ?_)
    have hP : va_P D vwCl (wl_kf_X2_search cI cJ cK xr r1 r2 r3 r4 r5 w0 w1 w2 w3 w4 w5 w6 w7 xn (nI w) (nI k_4) rw rk ro rt rb rd nf wf0_2 wf1 wf2 wf3 wf4 wf5 wf6 wf7) H := hP
    have hD : va_D A (wl_kf_X2_search cI cJ cK xr r1 r2 r3 r4 r5 w0 w1 w2 w3 w4 w5 w6 w7 xn (nI w) (nI k_4) rw rk ro rt rb rd nf wf0_2 wf1 wf2 wf3 wf4 wf5 wf6 wf7) := hD
    refine lv_aload_n hx hb dX2_search_26 rfl (lv_at hl 1 rfl) ?_
    refine lv_aload_n hx hb dX2_search_27 rfl (lv_at hl 1 rfl) ?_
    refine va_get (ci := 2) (v := .int (nI k_4)) (C := RX2) (T := TX2) (N := 9) hx hb hts hi2 hown hK hP 0 rfl rfl 6 (by decide) fl34 (fun _ h9 => h9) rfl dX2_search_28 ?_
    refine lv_if_ne (tgt := 38) hx hb dX2_search_31 (by decide) (fun c31 => ?_) (fun c31 => ?_)
    ·
      have d31 : ((k_4 : Nat) : Int) ≠ (0 : Int) := my_ne c31 (nI_toInt (by omega)) (by decide +kernel)
      refine lv_sipush (v := 513) hx hb dX2_search_38 (by decide +kernel) ?_
      refine va_put (ci := 2) (v := .int 513) (ty := (.int)) (C := RX2) (T := TX2) (N := 9) hx hb hts hi2 tyX2 tyX2_ok nmX2 hown hK hP hD hS 0 rfl rfl 7 (by decide) fl37 (fun _ h9 => h9) rfl (by decide +kernel) rfl rfl (Nat.le_of_ble_eq_true rfl) dX2_search_41 (fun H locs hP hD hS => ?_)
      have hP : va_P D vwCl (wl_kf_X2_search cI cJ cK xr r1 r2 r3 r4 r5 w0 w1 w2 w3 w4 w5 w6 w7 xn (nI w) (nI k_4) 513 rk ro rt rb rd nf wf0_2 wf1 wf2 wf3 wf4 wf5 wf6 wf7) H := hP
      have hD : va_D A (wl_kf_X2_search cI cJ cK xr r1 r2 r3 r4 r5 w0 w1 w2 w3 w4 w5 w6 w7 xn (nI w) (nI k_4) 513 rk ro rt rb rd nf wf0_2 wf1 wf2 wf3 wf4 wf5 wf6 wf7) := hD
      have hcd9 : k_4 = tC (oS v_1) := by have h9 := za_c (v := v_1) (by omega); omega
      refine lv_aload_n hx hb dX2_search_44 rfl (lv_at hl 1 rfl) ?_
      refine lv_iconst (v := 0) hx hb dX2_search_45 (by decide +kernel) ?_
      refine lv_iload_n hx hb dX2_search_46 rfl (lv_at hl 0 rfl) ?_
      refine lv_iconst (v := 0) hx hb dX2_search_47 (by decide +kernel) ?_
      refine my_goVS (wc := (wl_kf_X2_tryBits_0 cI cJ cK xr r1 r2 r3 r4 r5 w0 w1 w2 w3 w4 w5 w6 w7 (nI w) (nI k_4) 513 rk ro rt rb wf0_2 wf1 wf2 wf3 wf4 wf5 wf6 wf7)) hP hD hS hA [0, 1, 2, 3, 4, 7, 8, 9, 10, 11, 12, 13, 14] rfl [some 0, some 1, some 2, some 3, some 4, none, none, some 5, some 6, some 7, some 8, some 9, some 10, some 11, some 12] (by decide +kernel) (my_cV (As := [.int 0, .int (nI v_1), .int 0]) (rest := []) (ci := 2) (wc := (wl_kf_X2_tryBits_0 cI cJ cK xr r1 r2 r3 r4 r5 w0 w1 w2 w3 w4 w5 w6 w7 (nI w) (nI k_4) 513 rk ro rt rb wf0_2 wf1 wf2 wf3 wf4 wf5 wf6 wf7)) ⟨hx, hb, hml, hown, hts⟩ (cwV 3 hts gX2_search_X2_tryBits rfl rfl rfl (by decide +kernel) ⟨Nat.le_of_ble_eq_true rfl, Nat.le_of_ble_eq_true rfl⟩) hN hK hP hD [0, 1, 2, 3, 4, 7, 8, 9, 10, 11, 12, 13, 14] rfl (by decide) rfl 0 rfl rfl rfl rfl hl.1 rfl (Nat.le_of_ble_eq_true rfl) dX2_search_48 ⟨Nat.le_of_ble_eq_true rfl, Nat.le_of_ble_eq_true rfl⟩  ((kf_X2_tryBits_0 l D cI cJ cK xr r1 r2 r3 r4 r5 w0 w1 w2 w3 w4 w5 w6 w7 w k_4 (513 : Int32) rk ro rt rb wf0_2 wf1 wf2 wf3 wf4 wf5 wf6 wf7 v_1 0 513 (tV0 nf) (by first | assumption | omega | decide +kernel) (by first | assumption | omega | decide +kernel) (by first | assumption | omega | decide +kernel) (by first | assumption | omega | decide +kernel) (by first | assumption | omega | decide +kernel) (by first | assumption | omega | decide +kernel) (hl0) (fun i _ => tV0_8 hR_nf i) (fun c hc hs => (hvv c hc).mp hs) (by first | assumption | omega | decide +kernel) (by first | assumption | omega | decide +kernel)) _)) (fun u H locs hp hPD hS => ?_)
      obtain ⟨rw_6, rk_7, ro_8, rt_9, rb_10, wf1_11, wf2_12, wf3_13, wf4_14, wf5_15, wf6_16, wf7_17, rfl, ht_18, hfw1⟩ := hp
      obtain ⟨hP, hD⟩ := hPD rfl
      have hP : va_P D vwCl (wl_kf_X2_search cI cJ cK xr r1 r2 r3 r4 r5 w0 w1 w2 w3 w4 w5 w6 w7 xn (nI w) (nI k_4) rw_6 rk_7 ro_8 rt_9 rb_10 rd nf wf0_2 wf1_11 wf2_12 wf3_13 wf4_14 wf5_15 wf6_16 wf7_17) H := hP
      have hD : va_D A (wl_kf_X2_search cI cJ cK xr r1 r2 r3 r4 r5 w0 w1 w2 w3 w4 w5 w6 w7 xn (nI w) (nI k_4) rw_6 rk_7 ro_8 rt_9 rb_10 rd nf wf0_2 wf1_11 wf2_12 wf3_13 wf4_14 wf5_15 wf6_16 wf7_17) := hD
      refine lv_aload_n hx hb dX2_search_51 rfl (lv_at hl 1 rfl) ?_
      refine lv_iload_n hx hb dX2_search_52 rfl (lv_at hl 0 rfl) ?_
      refine my_goVS (wc := (wl_k_X2_fillOrder cI cJ cK xr r1 r2 r3 r4 r5 (nI w) (nI k_4) rw_6 rk_7 rb_10 rd)) hP hD hS hA [0, 4, 5] rfl [some 0, none, none, none, some 1, some 2] (by decide +kernel) (my_cV (As := [.int (nI v_1)]) (rest := []) (ci := 2) (wc := (wl_k_X2_fillOrder cI cJ cK xr r1 r2 r3 r4 r5 (nI w) (nI k_4) rw_6 rk_7 rb_10 rd)) ⟨hx, hb, hml, hown, hts⟩ (cwV 1 hts gX2_search_X2_fillOrder rfl rfl rfl (by decide +kernel) ⟨Nat.le_of_ble_eq_true rfl, Nat.le_of_ble_eq_true rfl⟩) hN hK hP hD [0, 4, 5] rfl (by decide) rfl 0 rfl rfl rfl rfl hl.1 rfl (Nat.le_of_ble_eq_true rfl) dX2_search_53 ⟨Nat.le_of_ble_eq_true rfl, Nat.le_of_ble_eq_true rfl⟩  ((k_X2_fillOrder l D cI cJ cK xr r1 r2 r3 r4 r5 w k_4 rw_6 rk_7 rb_10 rd v_1 (by first | assumption | omega | decide +kernel) (by first | assumption | omega | decide +kernel) (by first | assumption | omega | decide +kernel) (by first | assumption | omega | decide +kernel)) _)) (fun u H locs hp hPD hS => ?_)
      obtain ⟨rd_19, rfl⟩ := hp
      obtain ⟨hP, hD⟩ := hPD rfl
      have hP : va_P D vwCl (wl_kf_X2_search cI cJ cK xr r1 r2 r3 r4 r5 w0 w1 w2 w3 w4 w5 w6 w7 xn (nI w) (nI k_4) rw_6 rk_7 ro_8 rt_9 rb_10 rd_19 nf wf0_2 wf1_11 wf2_12 wf3_13 wf4_14 wf5_15 wf6_16 wf7_17) H := hP
      have hD : va_D A (wl_kf_X2_search cI cJ cK xr r1 r2 r3 r4 r5 w0 w1 w2 w3 w4 w5 w6 w7 xn (nI w) (nI k_4) rw_6 rk_7 ro_8 rt_9 rb_10 rd_19 nf wf0_2 wf1_11 wf2_12 wf3_13 wf4_14 wf5_15 wf6_16 wf7_17) := hD
      refine lv_aload_n hx hb dX2_search_56 rfl (lv_at hl 1 rfl) ?_
      refine lv_dup hx hb dX2_search_57 rfl ?_
      refine va_get (ci := 2) (v := .int rw_6) (C := RX2) (T := TX2) (N := 9) hx hb hts hi2 hown hK hP 0 rfl rfl 7 (by decide) fl37 (fun _ h9 => h9) rfl dX2_search_58 ?_
      refine lv_aload_n hx hb dX2_search_61 rfl (lv_at hl 1 rfl) ?_
      refine va_get (ci := 2) (v := .int (nI w)) (C := RX2) (T := TX2) (N := 9) hx hb hts hi2 hown hK hP 0 rfl rfl 5 (by decide) fl30 (fun _ h9 => h9) rfl dX2_search_62 ?_
      refine lv_if_ne (tgt := 72) hx hb dX2_search_65 (by decide) (fun c65 => ?_) (fun c65 => ?_)
      ·
        have d65 : ((w : Nat) : Int) ≠ (0 : Int) := my_ne c65 (nI_toInt (by omega)) (by decide +kernel)
        refine lv_bipush (v := 8) hx hb dX2_search_72 (by decide +kernel) ?_
        refine lv_aload_n hx hb dX2_search_74 rfl (lv_at hl 1 rfl) ?_
        refine va_get (ci := 2) (v := .int (nI k_4)) (C := RX2) (T := TX2) (N := 9) hx hb hts hi2 hown hK hP 0 rfl rfl 6 (by decide) fl34 (fun _ h9 => h9) rfl dX2_search_75 ?_
        refine lv_isub hx hb dX2_search_78 ?_
        refine my_eqi (y := nI (8 - k_4)) (my_subN (a := 8) (b := k_4) (by omega)) ?_
        have hfi : rw_6.toInt = _ := (congrArg Int32.toInt hfw1).trans (nI_toInt (by omega))
        refine lv_iadd hx hb dX2_search_79 ?_
        refine lv_topi (fun z_20 ez_20 => ?_)
        try have tz_20 : z_20.toInt = rw_6.toInt + ((8 - k_4 : Nat) : Int) := by rw [ez_20]; exact my_addI rfl (nI_toInt (by omega)) (by omega) (by omega)
        refine va_put (ci := 2) (v := .int z_20) (ty := (.int)) (C := RX2) (T := TX2) (N := 9) hx hb hts hi2 tyX2 tyX2_ok nmX2 hown hK hP hD hS 0 rfl rfl 7 (by decide) fl37 (fun _ h9 => h9) rfl (by decide +kernel) rfl rfl (Nat.le_of_ble_eq_true rfl) dX2_search_80 (fun H locs hP hD hS => ?_)
        have hP : va_P D vwCl (wl_kf_X2_search cI cJ cK xr r1 r2 r3 r4 r5 w0 w1 w2 w3 w4 w5 w6 w7 xn (nI w) (nI k_4) z_20 rk_7 ro_8 rt_9 rb_10 rd_19 nf wf0_2 wf1_11 wf2_12 wf3_13 wf4_14 wf5_15 wf6_16 wf7_17) H := hP
        have hD : va_D A (wl_kf_X2_search cI cJ cK xr r1 r2 r3 r4 r5 w0 w1 w2 w3 w4 w5 w6 w7 xn (nI w) (nI k_4) z_20 rk_7 ro_8 rt_9 rb_10 rd_19 nf wf0_2 wf1_11 wf2_12 wf3_13 wf4_14 wf5_15 wf6_16 wf7_17) := hD
        refine lv_aload_n hx hb dX2_search_83 rfl (lv_at hl 1 rfl) ?_
        refine lv_iconst (v := 1) hx hb dX2_search_84 (by decide +kernel) ?_
        refine va_put (ci := 2) (v := .int 1) (ty := (.boolean)) (C := RX2) (T := TX2) (N := 9) hx hb hts hi2 tyX2 tyX2_ok nmX2 hown hK hP hD hS 0 rfl rfl 8 (by decide) fl40 (fun _ h9 => h9) rfl (by decide +kernel) (by decide +kernel) (by decide +kernel) (Nat.le_of_ble_eq_true rfl) dX2_search_85 (fun H locs hP hD hS => ?_)
        have hP : va_P D vwCl (wl_kf_X2_search cI cJ cK xr r1 r2 r3 r4 r5 w0 w1 w2 w3 w4 w5 w6 w7 xn (nI w) (nI k_4) z_20 1 ro_8 rt_9 rb_10 rd_19 nf wf0_2 wf1_11 wf2_12 wf3_13 wf4_14 wf5_15 wf6_16 wf7_17) H := hP
        have hD : va_D A (wl_kf_X2_search cI cJ cK xr r1 r2 r3 r4 r5 w0 w1 w2 w3 w4 w5 w6 w7 xn (nI w) (nI k_4) z_20 1 ro_8 rt_9 rb_10 rd_19 nf wf0_2 wf1_11 wf2_12 wf3_13 wf4_14 wf5_15 wf6_16 wf7_17) := hD
        refine lv_aload_n hx hb dX2_search_88 rfl (lv_at hl 1 rfl) ?_
        refine va_get (ci := 2) (v := .int z_20) (C := RX2) (T := TX2) (N := 9) hx hb hts hi2 hown hK hP 0 rfl rfl 7 (by decide) fl37 (fun _ h9 => h9) rfl dX2_search_89 ?_
        exact my_retI hx hb hr hlocks hK hS (wl_kf_X2_search cI cJ cK xr r1 r2 r3 r4 r5 w0 w1 w2 w3 w4 w5 w6 w7 xn (nI w) (nI k_4) z_20 1 ro_8 rt_9 rb_10 rd_19 nf wf0_2 wf1_11 wf2_12 wf3_13 wf4_14 wf5_15 wf6_16 wf7_17) hP hD (⟨w, k_4, z_20, 1, ro_8, rt_9, rb_10, rd_19, wf0_2, wf1_11, wf2_12, wf3_13, wf4_14, wf5_15, wf6_16, wf7_17, rfl, (by first | assumption | omega | trivial | decide +kernel), (by first | assumption | omega | trivial | decide +kernel), (by first | exact hkn (by omega) | exact th_fin hvv hcd9 hw (by omega) hfw1 (by omega)), (by first | exact hkn (by omega) | exact th_fin hvv hcd9 hw (by omega) hfw1 (by omega))⟩) dX2_search_92
      ·
        have d65 : ((w : Nat) : Int) = (0 : Int) := my_eq c65 (nI_toInt (by omega)) (by decide +kernel)
        refine lv_iconst (v := 0) hx hb dX2_search_68 (by decide +kernel) ?_
        refine lv_goto (tgt := 79) hx hb dX2_search_69 (by decide) ?_
        have hfi : rw_6.toInt = _ := (congrArg Int32.toInt hfw1).trans (nI_toInt (by omega))
        refine lv_iadd hx hb dX2_search_79 ?_
        refine lv_topi (fun z_21 ez_21 => ?_)
        try have tz_21 : z_21.toInt = rw_6.toInt + (0 : Int) := by rw [ez_21]; exact my_addI rfl (by decide +kernel) (by omega) (by omega)
        refine va_put (ci := 2) (v := .int z_21) (ty := (.int)) (C := RX2) (T := TX2) (N := 9) hx hb hts hi2 tyX2 tyX2_ok nmX2 hown hK hP hD hS 0 rfl rfl 7 (by decide) fl37 (fun _ h9 => h9) rfl (by decide +kernel) rfl rfl (Nat.le_of_ble_eq_true rfl) dX2_search_80 (fun H locs hP hD hS => ?_)
        have hP : va_P D vwCl (wl_kf_X2_search cI cJ cK xr r1 r2 r3 r4 r5 w0 w1 w2 w3 w4 w5 w6 w7 xn (nI w) (nI k_4) z_21 rk_7 ro_8 rt_9 rb_10 rd_19 nf wf0_2 wf1_11 wf2_12 wf3_13 wf4_14 wf5_15 wf6_16 wf7_17) H := hP
        have hD : va_D A (wl_kf_X2_search cI cJ cK xr r1 r2 r3 r4 r5 w0 w1 w2 w3 w4 w5 w6 w7 xn (nI w) (nI k_4) z_21 rk_7 ro_8 rt_9 rb_10 rd_19 nf wf0_2 wf1_11 wf2_12 wf3_13 wf4_14 wf5_15 wf6_16 wf7_17) := hD
        refine lv_aload_n hx hb dX2_search_83 rfl (lv_at hl 1 rfl) ?_
        refine lv_iconst (v := 1) hx hb dX2_search_84 (by decide +kernel) ?_
        refine va_put (ci := 2) (v := .int 1) (ty := (.boolean)) (C := RX2) (T := TX2) (N := 9) hx hb hts hi2 tyX2 tyX2_ok nmX2 hown hK hP hD hS 0 rfl rfl 8 (by decide) fl40 (fun _ h9 => h9) rfl (by decide +kernel) (by decide +kernel) (by decide +kernel) (Nat.le_of_ble_eq_true rfl) dX2_search_85 (fun H locs hP hD hS => ?_)
        have hP : va_P D vwCl (wl_kf_X2_search cI cJ cK xr r1 r2 r3 r4 r5 w0 w1 w2 w3 w4 w5 w6 w7 xn (nI w) (nI k_4) z_21 1 ro_8 rt_9 rb_10 rd_19 nf wf0_2 wf1_11 wf2_12 wf3_13 wf4_14 wf5_15 wf6_16 wf7_17) H := hP
        have hD : va_D A (wl_kf_X2_search cI cJ cK xr r1 r2 r3 r4 r5 w0 w1 w2 w3 w4 w5 w6 w7 xn (nI w) (nI k_4) z_21 1 ro_8 rt_9 rb_10 rd_19 nf wf0_2 wf1_11 wf2_12 wf3_13 wf4_14 wf5_15 wf6_16 wf7_17) := hD
        refine lv_aload_n hx hb dX2_search_88 rfl (lv_at hl 1 rfl) ?_
        refine va_get (ci := 2) (v := .int z_21) (C := RX2) (T := TX2) (N := 9) hx hb hts hi2 hown hK hP 0 rfl rfl 7 (by decide) fl37 (fun _ h9 => h9) rfl dX2_search_89 ?_
        exact my_retI hx hb hr hlocks hK hS (wl_kf_X2_search cI cJ cK xr r1 r2 r3 r4 r5 w0 w1 w2 w3 w4 w5 w6 w7 xn (nI w) (nI k_4) z_21 1 ro_8 rt_9 rb_10 rd_19 nf wf0_2 wf1_11 wf2_12 wf3_13 wf4_14 wf5_15 wf6_16 wf7_17) hP hD (⟨w, k_4, z_21, 1, ro_8, rt_9, rb_10, rd_19, wf0_2, wf1_11, wf2_12, wf3_13, wf4_14, wf5_15, wf6_16, wf7_17, rfl, (by first | assumption | omega | trivial | decide +kernel), (by first | assumption | omega | trivial | decide +kernel), (by first | exact hkn (by omega) | exact th_fin hvv hcd9 hw (by omega) hfw1 (by omega)), (by first | exact hkn (by omega) | exact th_fin hvv hcd9 hw (by omega) hfw1 (by omega))⟩) dX2_search_92
    ·
      have d31 : ((k_4 : Nat) : Int) = (0 : Int) := my_eq c31 (nI_toInt (by omega)) (by decide +kernel)
      refine lv_iconst (v := 0) hx hb dX2_search_34 (by decide +kernel) ?_
      refine lv_goto (tgt := 41) hx hb dX2_search_35 (by decide) ?_
      refine va_put (ci := 2) (v := .int 0) (ty := (.int)) (C := RX2) (T := TX2) (N := 9) hx hb hts hi2 tyX2 tyX2_ok nmX2 hown hK hP hD hS 0 rfl rfl 7 (by decide) fl37 (fun _ h9 => h9) rfl (by decide +kernel) rfl rfl (Nat.le_of_ble_eq_true rfl) dX2_search_41 (fun H locs hP hD hS => ?_)
      have hP : va_P D vwCl (wl_kf_X2_search cI cJ cK xr r1 r2 r3 r4 r5 w0 w1 w2 w3 w4 w5 w6 w7 xn (nI w) (nI k_4) 0 rk ro rt rb rd nf wf0_2 wf1 wf2 wf3 wf4 wf5 wf6 wf7) H := hP
      have hD : va_D A (wl_kf_X2_search cI cJ cK xr r1 r2 r3 r4 r5 w0 w1 w2 w3 w4 w5 w6 w7 xn (nI w) (nI k_4) 0 rk ro rt rb rd nf wf0_2 wf1 wf2 wf3 wf4 wf5 wf6 wf7) := hD
      have hcd9 : k_4 = tC (oS v_1) := by have h9 := za_c (v := v_1) (by omega); omega
      refine lv_aload_n hx hb dX2_search_44 rfl (lv_at hl 1 rfl) ?_
      refine lv_iconst (v := 0) hx hb dX2_search_45 (by decide +kernel) ?_
      refine lv_iload_n hx hb dX2_search_46 rfl (lv_at hl 0 rfl) ?_
      refine lv_iconst (v := 0) hx hb dX2_search_47 (by decide +kernel) ?_
      refine my_goVS (wc := (wl_kf_X2_tryBits_0 cI cJ cK xr r1 r2 r3 r4 r5 w0 w1 w2 w3 w4 w5 w6 w7 (nI w) (nI k_4) 0 rk ro rt rb wf0_2 wf1 wf2 wf3 wf4 wf5 wf6 wf7)) hP hD hS hA [0, 1, 2, 3, 4, 7, 8, 9, 10, 11, 12, 13, 14] rfl [some 0, some 1, some 2, some 3, some 4, none, none, some 5, some 6, some 7, some 8, some 9, some 10, some 11, some 12] (by decide +kernel) (my_cV (As := [.int 0, .int (nI v_1), .int 0]) (rest := []) (ci := 2) (wc := (wl_kf_X2_tryBits_0 cI cJ cK xr r1 r2 r3 r4 r5 w0 w1 w2 w3 w4 w5 w6 w7 (nI w) (nI k_4) 0 rk ro rt rb wf0_2 wf1 wf2 wf3 wf4 wf5 wf6 wf7)) ⟨hx, hb, hml, hown, hts⟩ (cwV 3 hts gX2_search_X2_tryBits rfl rfl rfl (by decide +kernel) ⟨Nat.le_of_ble_eq_true rfl, Nat.le_of_ble_eq_true rfl⟩) hN hK hP hD [0, 1, 2, 3, 4, 7, 8, 9, 10, 11, 12, 13, 14] rfl (by decide) rfl 0 rfl rfl rfl rfl hl.1 rfl (Nat.le_of_ble_eq_true rfl) dX2_search_48 ⟨Nat.le_of_ble_eq_true rfl, Nat.le_of_ble_eq_true rfl⟩  ((kf_X2_tryBits_0 l D cI cJ cK xr r1 r2 r3 r4 r5 w0 w1 w2 w3 w4 w5 w6 w7 w k_4 (0 : Int32) rk ro rt rb wf0_2 wf1 wf2 wf3 wf4 wf5 wf6 wf7 v_1 0 0 (tV0 nf) (by first | assumption | omega | decide +kernel) (by first | assumption | omega | decide +kernel) (by first | assumption | omega | decide +kernel) (by first | assumption | omega | decide +kernel) (by first | assumption | omega | decide +kernel) (by first | assumption | omega | decide +kernel) (hl0) (fun i _ => tV0_8 hR_nf i) (fun c hc hs => (hvv c hc).mp hs) (by first | assumption | omega | decide +kernel) (by first | assumption | omega | decide +kernel)) _)) (fun u H locs hp hPD hS => ?_)
      obtain ⟨rw_22, rk_23, ro_24, rt_25, rb_26, wf1_27, wf2_28, wf3_29, wf4_30, wf5_31, wf6_32, wf7_33, rfl, ht_34, hfw1⟩ := hp
      obtain ⟨hP, hD⟩ := hPD rfl
      have hP : va_P D vwCl (wl_kf_X2_search cI cJ cK xr r1 r2 r3 r4 r5 w0 w1 w2 w3 w4 w5 w6 w7 xn (nI w) (nI k_4) rw_22 rk_23 ro_24 rt_25 rb_26 rd nf wf0_2 wf1_27 wf2_28 wf3_29 wf4_30 wf5_31 wf6_32 wf7_33) H := hP
      have hD : va_D A (wl_kf_X2_search cI cJ cK xr r1 r2 r3 r4 r5 w0 w1 w2 w3 w4 w5 w6 w7 xn (nI w) (nI k_4) rw_22 rk_23 ro_24 rt_25 rb_26 rd nf wf0_2 wf1_27 wf2_28 wf3_29 wf4_30 wf5_31 wf6_32 wf7_33) := hD
      refine lv_aload_n hx hb dX2_search_51 rfl (lv_at hl 1 rfl) ?_
      refine lv_iload_n hx hb dX2_search_52 rfl (lv_at hl 0 rfl) ?_
      refine my_goVS (wc := (wl_k_X2_fillOrder cI cJ cK xr r1 r2 r3 r4 r5 (nI w) (nI k_4) rw_22 rk_23 rb_26 rd)) hP hD hS hA [0, 4, 5] rfl [some 0, none, none, none, some 1, some 2] (by decide +kernel) (my_cV (As := [.int (nI v_1)]) (rest := []) (ci := 2) (wc := (wl_k_X2_fillOrder cI cJ cK xr r1 r2 r3 r4 r5 (nI w) (nI k_4) rw_22 rk_23 rb_26 rd)) ⟨hx, hb, hml, hown, hts⟩ (cwV 1 hts gX2_search_X2_fillOrder rfl rfl rfl (by decide +kernel) ⟨Nat.le_of_ble_eq_true rfl, Nat.le_of_ble_eq_true rfl⟩) hN hK hP hD [0, 4, 5] rfl (by decide) rfl 0 rfl rfl rfl rfl hl.1 rfl (Nat.le_of_ble_eq_true rfl) dX2_search_53 ⟨Nat.le_of_ble_eq_true rfl, Nat.le_of_ble_eq_true rfl⟩  ((k_X2_fillOrder l D cI cJ cK xr r1 r2 r3 r4 r5 w k_4 rw_22 rk_23 rb_26 rd v_1 (by first | assumption | omega | decide +kernel) (by first | assumption | omega | decide +kernel) (by first | assumption | omega | decide +kernel) (by first | assumption | omega | decide +kernel)) _)) (fun u H locs hp hPD hS => ?_)
      obtain ⟨rd_35, rfl⟩ := hp
      obtain ⟨hP, hD⟩ := hPD rfl
      have hP : va_P D vwCl (wl_kf_X2_search cI cJ cK xr r1 r2 r3 r4 r5 w0 w1 w2 w3 w4 w5 w6 w7 xn (nI w) (nI k_4) rw_22 rk_23 ro_24 rt_25 rb_26 rd_35 nf wf0_2 wf1_27 wf2_28 wf3_29 wf4_30 wf5_31 wf6_32 wf7_33) H := hP
      have hD : va_D A (wl_kf_X2_search cI cJ cK xr r1 r2 r3 r4 r5 w0 w1 w2 w3 w4 w5 w6 w7 xn (nI w) (nI k_4) rw_22 rk_23 ro_24 rt_25 rb_26 rd_35 nf wf0_2 wf1_27 wf2_28 wf3_29 wf4_30 wf5_31 wf6_32 wf7_33) := hD
      refine lv_aload_n hx hb dX2_search_56 rfl (lv_at hl 1 rfl) ?_
      refine lv_dup hx hb dX2_search_57 rfl ?_
      refine va_get (ci := 2) (v := .int rw_22) (C := RX2) (T := TX2) (N := 9) hx hb hts hi2 hown hK hP 0 rfl rfl 7 (by decide) fl37 (fun _ h9 => h9) rfl dX2_search_58 ?_
      refine lv_aload_n hx hb dX2_search_61 rfl (lv_at hl 1 rfl) ?_
      refine va_get (ci := 2) (v := .int (nI w)) (C := RX2) (T := TX2) (N := 9) hx hb hts hi2 hown hK hP 0 rfl rfl 5 (by decide) fl30 (fun _ h9 => h9) rfl dX2_search_62 ?_
      refine lv_if_ne (tgt := 72) hx hb dX2_search_65 (by decide) (fun c65 => ?_) (fun c65 => ?_)
      ·
        have d65 : ((w : Nat) : Int) ≠ (0 : Int) := my_ne c65 (nI_toInt (by omega)) (by decide +kernel)
        refine lv_bipush (v := 8) hx hb dX2_search_72 (by decide +kernel) ?_
        refine lv_aload_n hx hb dX2_search_74 rfl (lv_at hl 1 rfl) ?_
        refine va_get (ci := 2) (v := .int (nI k_4)) (C := RX2) (T := TX2) (N := 9) hx hb hts hi2 hown hK hP 0 rfl rfl 6 (by decide) fl34 (fun _ h9 => h9) rfl dX2_search_75 ?_
        refine lv_isub hx hb dX2_search_78 ?_
        refine my_eqi (y := nI (8 - k_4)) (my_subN (a := 8) (b := k_4) (by omega)) ?_
        have hfi : rw_22.toInt = _ := (congrArg Int32.toInt hfw1).trans (nI_toInt (by omega))
        refine lv_iadd hx hb dX2_search_79 ?_
        refine lv_topi (fun z_36 ez_36 => ?_)
        try have tz_36 : z_36.toInt = rw_22.toInt + ((8 - k_4 : Nat) : Int) := by rw [ez_36]; exact my_addI rfl (nI_toInt (by omega)) (by omega) (by omega)
        refine va_put (ci := 2) (v := .int z_36) (ty := (.int)) (C := RX2) (T := TX2) (N := 9) hx hb hts hi2 tyX2 tyX2_ok nmX2 hown hK hP hD hS 0 rfl rfl 7 (by decide) fl37 (fun _ h9 => h9) rfl (by decide +kernel) rfl rfl (Nat.le_of_ble_eq_true rfl) dX2_search_80 (fun H locs hP hD hS => ?_)
        have hP : va_P D vwCl (wl_kf_X2_search cI cJ cK xr r1 r2 r3 r4 r5 w0 w1 w2 w3 w4 w5 w6 w7 xn (nI w) (nI k_4) z_36 rk_23 ro_24 rt_25 rb_26 rd_35 nf wf0_2 wf1_27 wf2_28 wf3_29 wf4_30 wf5_31 wf6_32 wf7_33) H := hP
        have hD : va_D A (wl_kf_X2_search cI cJ cK xr r1 r2 r3 r4 r5 w0 w1 w2 w3 w4 w5 w6 w7 xn (nI w) (nI k_4) z_36 rk_23 ro_24 rt_25 rb_26 rd_35 nf wf0_2 wf1_27 wf2_28 wf3_29 wf4_30 wf5_31 wf6_32 wf7_33) := hD
        refine lv_aload_n hx hb dX2_search_83 rfl (lv_at hl 1 rfl) ?_
        refine lv_iconst (v := 1) hx hb dX2_search_84 (by decide +kernel) ?_
        refine va_put (ci := 2) (v := .int 1) (ty := (.boolean)) (C := RX2) (T := TX2) (N := 9) hx hb hts hi2 tyX2 tyX2_ok nmX2 hown hK hP hD hS 0 rfl rfl 8 (by decide) fl40 (fun _ h9 => h9) rfl (by decide +kernel) (by decide +kernel) (by decide +kernel) (Nat.le_of_ble_eq_true rfl) dX2_search_85 (fun H locs hP hD hS => ?_)
        have hP : va_P D vwCl (wl_kf_X2_search cI cJ cK xr r1 r2 r3 r4 r5 w0 w1 w2 w3 w4 w5 w6 w7 xn (nI w) (nI k_4) z_36 1 ro_24 rt_25 rb_26 rd_35 nf wf0_2 wf1_27 wf2_28 wf3_29 wf4_30 wf5_31 wf6_32 wf7_33) H := hP
        have hD : va_D A (wl_kf_X2_search cI cJ cK xr r1 r2 r3 r4 r5 w0 w1 w2 w3 w4 w5 w6 w7 xn (nI w) (nI k_4) z_36 1 ro_24 rt_25 rb_26 rd_35 nf wf0_2 wf1_27 wf2_28 wf3_29 wf4_30 wf5_31 wf6_32 wf7_33) := hD
        refine lv_aload_n hx hb dX2_search_88 rfl (lv_at hl 1 rfl) ?_
        refine va_get (ci := 2) (v := .int z_36) (C := RX2) (T := TX2) (N := 9) hx hb hts hi2 hown hK hP 0 rfl rfl 7 (by decide) fl37 (fun _ h9 => h9) rfl dX2_search_89 ?_
        exact my_retI hx hb hr hlocks hK hS (wl_kf_X2_search cI cJ cK xr r1 r2 r3 r4 r5 w0 w1 w2 w3 w4 w5 w6 w7 xn (nI w) (nI k_4) z_36 1 ro_24 rt_25 rb_26 rd_35 nf wf0_2 wf1_27 wf2_28 wf3_29 wf4_30 wf5_31 wf6_32 wf7_33) hP hD (⟨w, k_4, z_36, 1, ro_24, rt_25, rb_26, rd_35, wf0_2, wf1_27, wf2_28, wf3_29, wf4_30, wf5_31, wf6_32, wf7_33, rfl, (by first | assumption | omega | trivial | decide +kernel), (by first | assumption | omega | trivial | decide +kernel), (by first | exact hkn (by omega) | exact th_fin hvv hcd9 hw (by omega) hfw1 (by omega)), (by first | exact hkn (by omega) | exact th_fin hvv hcd9 hw (by omega) hfw1 (by omega))⟩) dX2_search_92
      ·
        have d65 : ((w : Nat) : Int) = (0 : Int) := my_eq c65 (nI_toInt (by omega)) (by decide +kernel)
        refine lv_iconst (v := 0) hx hb dX2_search_68 (by decide +kernel) ?_
        refine lv_goto (tgt := 79) hx hb dX2_search_69 (by decide) ?_
        have hfi : rw_22.toInt = _ := (congrArg Int32.toInt hfw1).trans (nI_toInt (by omega))
        refine lv_iadd hx hb dX2_search_79 ?_
        refine lv_topi (fun z_37 ez_37 => ?_)
        try have tz_37 : z_37.toInt = rw_22.toInt + (0 : Int) := by rw [ez_37]; exact my_addI rfl (by decide +kernel) (by omega) (by omega)
        refine va_put (ci := 2) (v := .int z_37) (ty := (.int)) (C := RX2) (T := TX2) (N := 9) hx hb hts hi2 tyX2 tyX2_ok nmX2 hown hK hP hD hS 0 rfl rfl 7 (by decide) fl37 (fun _ h9 => h9) rfl (by decide +kernel) rfl rfl (Nat.le_of_ble_eq_true rfl) dX2_search_80 (fun H locs hP hD hS => ?_)
        have hP : va_P D vwCl (wl_kf_X2_search cI cJ cK xr r1 r2 r3 r4 r5 w0 w1 w2 w3 w4 w5 w6 w7 xn (nI w) (nI k_4) z_37 rk_23 ro_24 rt_25 rb_26 rd_35 nf wf0_2 wf1_27 wf2_28 wf3_29 wf4_30 wf5_31 wf6_32 wf7_33) H := hP
        have hD : va_D A (wl_kf_X2_search cI cJ cK xr r1 r2 r3 r4 r5 w0 w1 w2 w3 w4 w5 w6 w7 xn (nI w) (nI k_4) z_37 rk_23 ro_24 rt_25 rb_26 rd_35 nf wf0_2 wf1_27 wf2_28 wf3_29 wf4_30 wf5_31 wf6_32 wf7_33) := hD
        refine lv_aload_n hx hb dX2_search_83 rfl (lv_at hl 1 rfl) ?_
        refine lv_iconst (v := 1) hx hb dX2_search_84 (by decide +kernel) ?_
        refine va_put (ci := 2) (v := .int 1) (ty := (.boolean)) (C := RX2) (T := TX2) (N := 9) hx hb hts hi2 tyX2 tyX2_ok nmX2 hown hK hP hD hS 0 rfl rfl 8 (by decide) fl40 (fun _ h9 => h9) rfl (by decide +kernel) (by decide +kernel) (by decide +kernel) (Nat.le_of_ble_eq_true rfl) dX2_search_85 (fun H locs hP hD hS => ?_)
        have hP : va_P D vwCl (wl_kf_X2_search cI cJ cK xr r1 r2 r3 r4 r5 w0 w1 w2 w3 w4 w5 w6 w7 xn (nI w) (nI k_4) z_37 1 ro_24 rt_25 rb_26 rd_35 nf wf0_2 wf1_27 wf2_28 wf3_29 wf4_30 wf5_31 wf6_32 wf7_33) H := hP
        have hD : va_D A (wl_kf_X2_search cI cJ cK xr r1 r2 r3 r4 r5 w0 w1 w2 w3 w4 w5 w6 w7 xn (nI w) (nI k_4) z_37 1 ro_24 rt_25 rb_26 rd_35 nf wf0_2 wf1_27 wf2_28 wf3_29 wf4_30 wf5_31 wf6_32 wf7_33) := hD
        refine lv_aload_n hx hb dX2_search_88 rfl (lv_at hl 1 rfl) ?_
        refine va_get (ci := 2) (v := .int z_37) (C := RX2) (T := TX2) (N := 9) hx hb hts hi2 hown hK hP 0 rfl rfl 7 (by decide) fl37 (fun _ h9 => h9) rfl dX2_search_89 ?_
        exact my_retI hx hb hr hlocks hK hS (wl_kf_X2_search cI cJ cK xr r1 r2 r3 r4 r5 w0 w1 w2 w3 w4 w5 w6 w7 xn (nI w) (nI k_4) z_37 1 ro_24 rt_25 rb_26 rd_35 nf wf0_2 wf1_27 wf2_28 wf3_29 wf4_30 wf5_31 wf6_32 wf7_33) hP hD (⟨w, k_4, z_37, 1, ro_24, rt_25, rb_26, rd_35, wf0_2, wf1_27, wf2_28, wf3_29, wf4_30, wf5_31, wf6_32, wf7_33, rfl, (by first | assumption | omega | trivial | decide +kernel), (by first | assumption | omega | trivial | decide +kernel), (by first | exact hkn (by omega) | exact th_fin hvv hcd9 hw (by omega) hfw1 (by omega)), (by first | exact hkn (by omega) | exact th_fin hvv hcd9 hw (by omega) hfw1 (by omega))⟩) dX2_search_92
abbrev wl_k_X8_thrift (cI cJ cK : ClassId) (x0 : Nat) (xn : Nat) (xl : Nat) (xt : Nat) (xo : Nat) (xf : Nat) (xs : Nat) (xp : Nat) (xq : Nat) (xr : Nat) (xc : Nat) (r1 : Nat) (r2 : Nat) (r3 : Nat) (r4 : Nat) (r5 : Nat) (w0 : Nat) (w1 : Nat) (w2 : Nat) (w3 : Nat) (w4 : Nat) (w5 : Nat) (w6 : Nat) (w7 : Nat) (o1 : Nat) (v0_ : Int32) (v1_ : Nat → Int32) (v2_ : Int32) (v3_ : Int32) (v4_ : Int32) (v5_ : Int32) (v6_ : Nat → Int64) (v7_ : Nat → Int32) (v8_ : Nat → Int32) (v9_ : Nat → Int32) (v10_ : Nat → Int64) (v11_ : Nat → Int64) (v12_ : Nat → Int64) (v13_ : Nat → Int64) (v14_ : Nat → Int64) (v15_ : Nat → Int64) (v16_ : Nat → Int64) (v17_ : Nat → Int64) (v18_ : Int32) (v19_ : Nat → Int64) : va_W := [(x0, .inr (8, [.ref xn, .int v0_, .ref xl, .ref xt, .ref xo, .ref xf, .ref xs, .ref xp, .ref xq, .ref xr, .ref xc])), (xn, .inl (cI, 64, .inl v1_)), (xr, .inr (2, [.ref r1, .ref r2, .ref r3, .ref r4, .ref r5, .int v2_, .int v3_, .int v4_, .int v5_])), (r1, .inl (cK, 8, .inr (.inr (.inr (.inr (fun j => ([w0, w1, w2, w3, w4, w5, w6, w7] : List Nat)[j]?)))))), (r2, .inl (cJ, 64, .inr (.inl v6_))), (r3, .inl (cI, 8, .inl v7_)), (r4, .inl (cI, 8, .inl v8_)), (r5, .inl (cI, 8, .inl v9_)), (w0, .inl (cJ, 64, .inr (.inl v10_))), (w1, .inl (cJ, 64, .inr (.inl v11_))), (w2, .inl (cJ, 64, .inr (.inl v12_))), (w3, .inl (cJ, 64, .inr (.inl v13_))), (w4, .inl (cJ, 64, .inr (.inl v14_))), (w5, .inl (cJ, 64, .inr (.inl v15_))), (w6, .inl (cJ, 64, .inr (.inl v16_))), (w7, .inl (cJ, 64, .inr (.inl v17_))), (xo, .inr (7, [.ref o1, .int v18_])), (o1, .inl (cJ, 64, .inr (.inl v19_)))]
set_option maxHeartbeats 4000000 in
set_option maxRecDepth 100000 in
theorem k_X8_thrift (l : Launch) (D : va_G) (cI cJ cK : ClassId) (x0 : Nat) (xn : Nat) (xl : Nat) (xt : Nat) (xo : Nat) (xf : Nat) (xs : Nat) (xp : Nat) (xq : Nat) (xr : Nat) (xc : Nat) (r1 : Nat) (r2 : Nat) (r3 : Nat) (r4 : Nat) (r5 : Nat) (w0 : Nat) (w1 : Nat) (w2 : Nat) (w3 : Nat) (w4 : Nat) (w5 : Nat) (w6 : Nat) (w7 : Nat) (o1 : Nat) (z : Nat) (nf : Nat → Int32) (rz : Nat) (rv : Nat) (rw : Int32) (rk : Int32) (ro : Nat → Int64) (rt : Nat → Int32) (rb : Nat → Int32) (rd : Nat → Int32) (wf0 : Nat → Int64) (wf1 : Nat → Int64) (wf2 : Nat → Int64) (wf3 : Nat → Int64) (wf4 : Nat → Int64) (wf5 : Nat → Int64) (wf6 : Nat → Int64) (wf7 : Nat → Int64) (oz : Nat) (of : Nat → Int64) (hz_z : z ≤ 64) (hR_nf : RB 0 255 nf) (hz_rz : rz ≤ 64) (hz_rv : rv ≤ 8) (hz_oz : oz ≤ 64) (hkn : rk.toInt ≠ 0 → rw = nI (thF nf z)) : ctI l yX8_thrift wsX8_thrift ({ frames := 19, cells := 0, slots := 0, locals := 1140 } : Room) D (tyIJ cI cJ cK) [.ref x0] (wl_k_X8_thrift cI cJ cK x0 xn xl xt xo xf xs xp xq xr xc r1 r2 r3 r4 r5 w0 w1 w2 w3 w4 w5 w6 w7 o1 (nI z) nf (nI rz) (nI rv) rw rk ro rt rb rd wf0 wf1 wf2 wf3 wf4 wf5 wf6 wf7 (nI oz) of) (fun (r : Int32) (u : va_W) => ∃ (rz' : Nat) (rv' : Nat) (rw' : Int32) (rk' : Int32) (ro' : Nat → Int64) (rt' : Nat → Int32) (rb' : Nat → Int32) (rd' : Nat → Int32) (wf0' : Nat → Int64) (wf1' : Nat → Int64) (wf2' : Nat → Int64) (wf3' : Nat → Int64) (wf4' : Nat → Int64) (wf5' : Nat → Int64) (wf6' : Nat → Int64) (wf7' : Nat → Int64) (oz' : Nat) (of' : Nat → Int64), u = (wl_k_X8_thrift cI cJ cK x0 xn xl xt xo xf xs xp xq xr xc r1 r2 r3 r4 r5 w0 w1 w2 w3 w4 w5 w6 w7 o1 (nI z) nf (nI rz') (nI rv') rw' rk' ro' rt' rb' rd' wf0' wf1' wf2' wf3' wf4' wf5' wf6' wf7' (nI oz') of') ∧ rz' ≤ 64 ∧ rv' ≤ 8 ∧ oz' ≤ 64 ∧ oz' = 8 ∧ True ∧ r = nI (thF nf z) ∧ rw' = nI (thF nf z)) := by
  refine ctI.of (cc := cX8_thrift) (maxL := 3) (ret := (some .int)) (by decide) rfl (Nat.le_of_ble_eq_true rfl) ?_
  intro p e s m below meth c ls A hx hb hr hts hown hml hlocks hname hA hK hN hP hD hS hl
  have hl : lv_has ls 3 [(0, .ref x0)] := hl
  have hown : s.vm.findClass RX8 = some m.cls := hown
  have hi2 : ∀ w ∈ u_ws RX2 TX2 9, w ∈ wsX8_thrift := by decide +kernel
  have hi8 : ∀ w ∈ u_ws RX8 TX8 11, w ∈ wsX8_thrift := by decide +kernel
  have fl13 := hts (.fieldLink RX8 13 "PlaneColumn" "size" "I") (by decide +kernel)
  have fl34 := hts (.fieldLink RX8 34 "PlaneColumn" "told" "LPlaneColumn$Told;") (by decide +kernel)
  have fl65 := hts (.fieldLink RX8 65 "PlaneColumn" "orderSearch" "LPlaneColumn$OrderSearch;") (by decide +kernel)
  have fl9 := hts (.fieldLink RX8 9 "PlaneColumn" "numbers" "[I") (by decide +kernel)
  refine lv_aload_n hx hb dX8_thrift_0 rfl (lv_at hl 0 rfl) ?_
  refine va_get (ci := 8) (v := .ref xr) (C := RX8) (T := TX8) (N := 11) hx hb hts hi8 hown hK hP 0 rfl rfl 9 (by decide) fl65 (fun _ h9 => h9) rfl dX8_thrift_1 ?_
  refine lv_aload_n hx hb dX8_thrift_4 rfl (lv_at hl 0 rfl) ?_
  refine va_get (ci := 8) (v := .ref xn) (C := RX8) (T := TX8) (N := 11) hx hb hts hi8 hown hK hP 0 rfl rfl 0 (by decide) fl9 (fun _ h9 => h9) rfl dX8_thrift_5 ?_
  refine lv_aload_n hx hb dX8_thrift_8 rfl (lv_at hl 0 rfl) ?_
  refine va_get (ci := 8) (v := .int (nI z)) (C := RX8) (T := TX8) (N := 11) hx hb hts hi8 hown hK hP 0 rfl rfl 1 (by decide) fl13 (fun _ h9 => h9) rfl dX8_thrift_9 ?_
  refine my_goIS (wc := (wl_kf_X2_search cI cJ cK xr r1 r2 r3 r4 r5 w0 w1 w2 w3 w4 w5 w6 w7 xn (nI rz) (nI rv) rw rk ro rt rb rd nf wf0 wf1 wf2 wf3 wf4 wf5 wf6 wf7)) hP hD hS hA [2, 3, 4, 5, 6, 7, 1, 8, 9, 10, 11, 12, 13, 14, 15] rfl [none, some 6, some 0, some 1, some 2, some 3, some 4, some 5, some 7, some 8, some 9, some 10, some 11, some 12, some 13, some 14] (by decide +kernel) (my_cV (As := [.ref xn, .int (nI z)]) (rest := []) (ci := 2) (wc := (wl_kf_X2_search cI cJ cK xr r1 r2 r3 r4 r5 w0 w1 w2 w3 w4 w5 w6 w7 xn (nI rz) (nI rv) rw rk ro rt rb rd nf wf0 wf1 wf2 wf3 wf4 wf5 wf6 wf7)) ⟨hx, hb, hml, hown, hts⟩ (cwV 2 hts gX8_thrift_X2_search rfl rfl rfl (by decide +kernel) ⟨Nat.le_of_ble_eq_true rfl, Nat.le_of_ble_eq_true rfl⟩) hN hK hP hD [2, 3, 4, 5, 6, 7, 1, 8, 9, 10, 11, 12, 13, 14, 15] rfl (by decide) rfl 2 rfl rfl rfl rfl hl.1 rfl (Nat.le_of_ble_eq_true rfl) dX8_thrift_12 ⟨Nat.le_of_ble_eq_true rfl, Nat.le_of_ble_eq_true rfl⟩  ((kf_X2_search l D cI cJ cK xr r1 r2 r3 r4 r5 w0 w1 w2 w3 w4 w5 w6 w7 xn rz rv rw rk ro rt rb rd nf wf0 wf1 wf2 wf3 wf4 wf5 wf6 wf7 z (by first | assumption | omega | decide +kernel) (by first | assumption | omega | decide +kernel) hR_nf (by first | assumption | omega | decide +kernel) (by first | assumption | omega | decide +kernel)) _)) (fun r u H locs hp hPD hS => ?_)
  obtain ⟨rz_1, rv_2, rw_3, rk_4, ro_5, rt_6, rb_7, rd_8, wf0_9, wf1_10, wf2_11, wf3_12, wf4_13, wf5_14, wf6_15, wf7_16, rfl, hhz_rz_17, hhz_rv_18, hsr, hsk⟩ := hp
  obtain ⟨r_19, rfl⟩ : ∃ z, z = r := ⟨_, rfl⟩
  obtain ⟨hP, hD⟩ := hPD rfl
  have hP : va_P D vwCl (wl_k_X8_thrift cI cJ cK x0 xn xl xt xo xf xs xp xq xr xc r1 r2 r3 r4 r5 w0 w1 w2 w3 w4 w5 w6 w7 o1 (nI z) nf (nI rz_1) (nI rv_2) rw_3 rk_4 ro_5 rt_6 rb_7 rd_8 wf0_9 wf1_10 wf2_11 wf3_12 wf4_13 wf5_14 wf6_15 wf7_16 (nI oz) of) H := hP
  have hD : va_D A (wl_k_X8_thrift cI cJ cK x0 xn xl xt xo xf xs xp xq xr xc r1 r2 r3 r4 r5 w0 w1 w2 w3 w4 w5 w6 w7 o1 (nI z) nf (nI rz_1) (nI rv_2) rw_3 rk_4 ro_5 rt_6 rb_7 rd_8 wf0_9 wf1_10 wf2_11 wf3_12 wf4_13 wf5_14 wf6_15 wf7_16 (nI oz) of) := hD
  refine lv_istore_n (lv' := [(1, .int r_19), (0, .ref x0)]) hx hb dX8_thrift_15 rfl hl (by decide) rfl (fun ls hl => ?_)
  refine lv_aload_n hx hb dX8_thrift_16 rfl (lv_at hl 1 rfl) ?_
  refine va_get (ci := 8) (v := .ref xo) (C := RX8) (T := TX8) (N := 11) hx hb hts hi8 hown hK hP 0 rfl rfl 4 (by decide) fl34 (fun _ h9 => h9) rfl dX8_thrift_17 ?_
  refine my_goVS (wc := (wl_k_X7_begin cI cJ cK xo o1 (nI oz))) hP hD hS hA [16] rfl [none, none, none, none, none, none, none, none, none, none, none, none, none, none, none, none, some 0] (by decide +kernel) (my_cV (As := []) (rest := []) (ci := 7) (wc := (wl_k_X7_begin cI cJ cK xo o1 (nI oz))) ⟨hx, hb, hml, hown, hts⟩ (cwV 0 hts gX8_thrift_X7_begin rfl rfl rfl (by decide +kernel) ⟨Nat.le_of_ble_eq_true rfl, Nat.le_of_ble_eq_true rfl⟩) hN hK hP hD [16] rfl (by decide) rfl 16 rfl rfl rfl rfl hl.1 rfl (Nat.le_of_ble_eq_true rfl) dX8_thrift_20 ⟨Nat.le_of_ble_eq_true rfl, Nat.le_of_ble_eq_true rfl⟩  ((k_X7_begin l D cI cJ cK xo o1 oz (by first | assumption | omega | decide +kernel)) _)) (fun u H locs hp hPD hS => ?_)
  obtain rfl := hp
  obtain ⟨hP, hD⟩ := hPD rfl
  have hP : va_P D vwCl (wl_k_X8_thrift cI cJ cK x0 xn xl xt xo xf xs xp xq xr xc r1 r2 r3 r4 r5 w0 w1 w2 w3 w4 w5 w6 w7 o1 (nI z) nf (nI rz_1) (nI rv_2) rw_3 rk_4 ro_5 rt_6 rb_7 rd_8 wf0_9 wf1_10 wf2_11 wf3_12 wf4_13 wf5_14 wf6_15 wf7_16 0 of) H := hP
  have hD : va_D A (wl_k_X8_thrift cI cJ cK x0 xn xl xt xo xf xs xp xq xr xc r1 r2 r3 r4 r5 w0 w1 w2 w3 w4 w5 w6 w7 o1 (nI z) nf (nI rz_1) (nI rv_2) rw_3 rk_4 ro_5 rt_6 rb_7 rd_8 wf0_9 wf1_10 wf2_11 wf3_12 wf4_13 wf5_14 wf6_15 wf7_16 0 of) := hD
  refine lv_iconst (v := 0) hx hb dX8_thrift_23 (by decide +kernel) ?_
  refine lv_istore_n (lv' := [(2, .int 0), (1, .int r_19), (0, .ref x0)]) hx hb dX8_thrift_24 rfl hl (by decide) rfl (fun ls hl => ?_)
  have loop25 : ∀ (n9 : Nat) (k : Nat) (xo_size_25 : Nat) (o1_25 : Nat → Int64), 8 - k < n9 → (k ≤ 8) → (xo_size_25 = k) → (xo_size_25 ≤ 64) → ∀ (H : Heap) (locs : List Loc) (ls : Array Slot), va_P D vwCl (wl_k_X8_thrift cI cJ cK x0 xn xl xt xo xf xs xp xq xr xc r1 r2 r3 r4 r5 w0 w1 w2 w3 w4 w5 w6 w7 o1 (nI z) nf (nI rz_1) (nI rv_2) rw_3 rk_4 ro_5 rt_6 rb_7 rd_8 wf0_9 wf1_10 wf2_11 wf3_12 wf4_13 wf5_14 wf6_15 wf7_16 (nI xo_size_25) o1_25) H → va_D A (wl_k_X8_thrift cI cJ cK x0 xn xl xt xo xf xs xp xq xr xc r1 r2 r3 r4 r5 w0 w1 w2 w3 w4 w5 w6 w7 o1 (nI z) nf (nI rz_1) (nI rv_2) rw_3 rk_4 ro_5 rt_6 rb_7 rd_8 wf0_9 wf1_10 wf2_11 wf3_12 wf4_13 wf5_14 wf6_15 wf7_16 (nI xo_size_25) o1_25) → va_S A s.heap H locs → lv_has ls 3 [(2, .int (nI k)), (1, .int r_19), (0, .ref x0)] → W p l e ({ frames := 19, cells := 0, slots := 0, locals := 1140 } : Room) s m [.ref x0].toArray below meth c H locs 0 0 (MQ below (va_Qi (fun (r : Int32) (u : va_W) => ∃ (rz' : Nat) (rv' : Nat) (rw' : Int32) (rk' : Int32) (ro' : Nat → Int64) (rt' : Nat → Int32) (rb' : Nat → Int32) (rd' : Nat → Int32) (wf0' : Nat → Int64) (wf1' : Nat → Int64) (wf2' : Nat → Int64) (wf3' : Nat → Int64) (wf4' : Nat → Int64) (wf5' : Nat → Int64) (wf6' : Nat → Int64) (wf7' : Nat → Int64) (oz' : Nat) (of' : Nat → Int64), u = (wl_k_X8_thrift cI cJ cK x0 xn xl xt xo xf xs xp xq xr xc r1 r2 r3 r4 r5 w0 w1 w2 w3 w4 w5 w6 w7 o1 (nI z) nf (nI rz') (nI rv') rw' rk' ro' rt' rb' rd' wf0' wf1' wf2' wf3' wf4' wf5' wf6' wf7' (nI oz') of') ∧ rz' ≤ 64 ∧ rv' ≤ 8 ∧ oz' ≤ 64 ∧ oz' = 8 ∧ True ∧ r = nI (thF nf z) ∧ rw' = nI (thF nf z)) (my_B D (tyIJ cI cJ cK) A) A) [.ref x0].toArray s 0 0 A) (F0 m 25 ls []) := by
    intro n9
    induction n9 with
    | zero =>
      intro k xo_size_25 o1_25 hn9
      exact absurd hn9 (Nat.not_lt_zero _)
    | succ n9 ih25 =>
      intro k xo_size_25 o1_25 hn9 hk_k ho8 hz_xo_size_25 H locs ls hP hD hS hl
      refine lv_iload_n hx hb dX8_thrift_25 rfl (lv_at hl 0 rfl) ?_
      refine lv_bipush (v := 8) hx hb dX8_thrift_26 (by decide +kernel) ?_
      refine lv_icmp_ge (tgt := 54) hx hb dX8_thrift_28 (by decide) (fun c28 => ?_) (fun c28 => ?_)
      ·
        have d28 : ((k : Nat) : Int) ≥ (8 : Int) := my_ge c28 (nI_toInt (by omega)) (by decide +kernel)
        refine lv_iload_n hx hb dX8_thrift_54 rfl (lv_at hl 1 rfl) ?_
        exact my_retI hx hb hr hlocks hK hS (wl_k_X8_thrift cI cJ cK x0 xn xl xt xo xf xs xp xq xr xc r1 r2 r3 r4 r5 w0 w1 w2 w3 w4 w5 w6 w7 o1 (nI z) nf (nI rz_1) (nI rv_2) rw_3 rk_4 ro_5 rt_6 rb_7 rd_8 wf0_9 wf1_10 wf2_11 wf3_12 wf4_13 wf5_14 wf6_15 wf7_16 (nI xo_size_25) o1_25) hP hD (⟨rz_1, rv_2, rw_3, rk_4, ro_5, rt_6, rb_7, rd_8, wf0_9, wf1_10, wf2_11, wf3_12, wf4_13, wf5_14, wf6_15, wf7_16, xo_size_25, o1_25, rfl, (by first | assumption | omega | trivial | decide +kernel), (by first | assumption | omega | trivial | decide +kernel), (by first | assumption | omega | trivial | decide +kernel), (by first | assumption | omega | trivial | decide +kernel), (by first | assumption | omega | trivial | decide +kernel), hsr, hsk⟩) dX8_thrift_55
      ·
        have d28 : ((k : Nat) : Int) < (8 : Int) := my_nge c28 (nI_toInt (by omega)) (by decide +kernel)
        refine lv_aload_n hx hb dX8_thrift_31 rfl (lv_at hl 2 rfl) ?_
        refine va_get (ci := 8) (v := .ref xo) (C := RX8) (T := TX8) (N := 11) hx hb hts hi8 hown hK hP 0 rfl rfl 4 (by decide) fl34 (fun _ h9 => h9) rfl dX8_thrift_32 ?_
        refine lv_aload_n hx hb dX8_thrift_35 rfl (lv_at hl 2 rfl) ?_
        refine va_get (ci := 8) (v := .ref xr) (C := RX8) (T := TX8) (N := 11) hx hb hts hi8 hown hK hP 0 rfl rfl 9 (by decide) fl65 (fun _ h9 => h9) rfl dX8_thrift_36 ?_
        refine va_getN (ci := 2) (v := .ref r5) (C := RX2) (T := TX2) (N := 9) hx hb hts hi2 hown hK hP 2 rfl rfl 4 (by decide) (nw_f_RX8_161 hN) (fun _ h9 => h9) rfl dX8_thrift_39 ?_
        refine lv_iload_n hx hb dX8_thrift_42 rfl (lv_at hl 0 rfl) ?_
        refine va_iald hx hb hK hP 7 0 rfl rfl (vp_in_nI (by omega) (by omega)) dX8_thrift_43 ?_
        refine my_eqi (y := rd_8 k) (congrArg rd_8 (nI_clamp (by omega))) ?_
        refine lv_i2l (v := (rd_8 k).toInt64) hx hb dX8_thrift_44 rfl ?_
        refine my_goVS (wc := (wl_kf_X7_add cI cJ cK xo o1 (nI xo_size_25) o1_25)) hP hD hS hA [16, 17] rfl [none, none, none, none, none, none, none, none, none, none, none, none, none, none, none, none, some 0, some 1] (by decide +kernel) (my_cV (As := [.long ((rd_8 k).toInt64)]) (rest := []) (ci := 7) (wc := (wl_kf_X7_add cI cJ cK xo o1 (nI xo_size_25) o1_25)) ⟨hx, hb, hml, hown, hts⟩ (cwV 1 hts gX8_thrift_X7_add rfl rfl rfl (by decide +kernel) ⟨Nat.le_of_ble_eq_true rfl, Nat.le_of_ble_eq_true rfl⟩) hN hK hP hD [16, 17] rfl (by decide) rfl 16 rfl rfl rfl rfl hl.1 rfl (Nat.le_of_ble_eq_true rfl) dX8_thrift_45 ⟨Nat.le_of_ble_eq_true rfl, Nat.le_of_ble_eq_true rfl⟩  ((kf_X7_add l D cI cJ cK xo o1 xo_size_25 o1_25 ((rd_8 k).toInt64) (by first | assumption | omega | decide +kernel) (by first | assumption | omega | decide +kernel)) _)) (fun u H locs hp hPD hS => ?_)
        obtain ⟨of_21, rfl, hof, ht_22⟩ := hp
        obtain ⟨hP, hD⟩ := hPD rfl
        have hP : va_P D vwCl (wl_k_X8_thrift cI cJ cK x0 xn xl xt xo xf xs xp xq xr xc r1 r2 r3 r4 r5 w0 w1 w2 w3 w4 w5 w6 w7 o1 (nI z) nf (nI rz_1) (nI rv_2) rw_3 rk_4 ro_5 rt_6 rb_7 rd_8 wf0_9 wf1_10 wf2_11 wf3_12 wf4_13 wf5_14 wf6_15 wf7_16 (nI (xo_size_25 + 1)) of_21) H := hP
        have hD : va_D A (wl_k_X8_thrift cI cJ cK x0 xn xl xt xo xf xs xp xq xr xc r1 r2 r3 r4 r5 w0 w1 w2 w3 w4 w5 w6 w7 o1 (nI z) nf (nI rz_1) (nI rv_2) rw_3 rk_4 ro_5 rt_6 rb_7 rd_8 wf0_9 wf1_10 wf2_11 wf3_12 wf4_13 wf5_14 wf6_15 wf7_16 (nI (xo_size_25 + 1)) of_21) := hD
        refine lv_iinc (v := nI (k + 1)) (lv' := [(2, .int (nI (k + 1))), (1, .int r_19), (0, .ref x0)]) hx hb dX8_thrift_48 hl (k := 0) rfl (my_incN k 1 (by decide +kernel)) (by decide) rfl (fun ls hl => ?_)
        refine lv_goto (tgt := 25) hx hb dX8_thrift_51 (by decide) ?_
        exact ih25  (k + 1) (xo_size_25 + 1) of_21 (by omega) (by first | assumption | omega | decide +kernel) (by first | assumption | omega | decide +kernel) (by first | assumption | omega | decide +kernel) _ _ ls hP hD hS (lv_sub hl [0, 1, 2] rfl)
  exact loop25 ((8 - 0) + 1) 0 0 of (Nat.lt_succ_self _) (by first | assumption | omega | decide +kernel) (by first | assumption | omega | decide +kernel) (by first | assumption | omega | decide +kernel) _ _ ls hP hD hS (lv_sub hl [0, 1, 2] rfl)
