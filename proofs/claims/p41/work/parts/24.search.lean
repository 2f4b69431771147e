abbrev wl_k_X2_forget (cI cJ cK : ClassId) (xr : Nat) (r1 : Nat) (r2 : Nat) (r3 : Nat) (r4 : Nat) (r5 : Nat) (v0_ : Int32) (v1_ : Int32) (v2_ : Int32) (v3_ : Int32) : va_W := [(xr, .inr (2, [.ref r1, .ref r2, .ref r3, .ref r4, .ref r5, .int v0_, .int v1_, .int v2_, .int v3_]))]
set_option maxHeartbeats 4000000 in
set_option maxRecDepth 100000 in
theorem k_X2_forget (l : Launch) (D : va_G) (cI cJ cK : ClassId) (xr : Nat) (r1 : Nat) (r2 : Nat) (r3 : Nat) (r4 : Nat) (r5 : Nat) (rz : Nat) (rv : Nat) (rw : Int32) (rk : Int32) (hz_rz : rz ≤ 64) (hz_rv : rv ≤ 8) : ctV l yX2_forget wsX2_forget ({ frames := 0, cells := 0, slots := 0, locals := 0 } : Room) D (tyIJ cI cJ cK) [.ref xr] (wl_k_X2_forget cI cJ cK xr r1 r2 r3 r4 r5 (nI rz) (nI rv) rw rk) (fun (u : va_W) => u = (wl_k_X2_forget cI cJ cK xr r1 r2 r3 r4 r5 (nI rz) (nI rv) rw 0)) := by
  refine ctV.of (cc := cX2_forget) (maxL := 1) (ret := none) (by decide) rfl (Nat.le_of_ble_eq_true rfl) ?_
  intro p e s m below meth c ls A hx hb hr hts hown hml hlocks hname hA hK hN hP hD hS hl
  have hl : lv_has ls 1 [(0, .ref xr)] := hl
  have hown : s.vm.findClass RX2 = some m.cls := hown
  have hi2 : ∀ w ∈ u_ws RX2 TX2 9, w ∈ wsX2_forget := by decide +kernel
  have fl40 := hts (.fieldLink RX2 40 "PlaneColumn$OrderSearch" "known" "Z") (by decide +kernel)
  refine lv_aload_n hx hb dX2_forget_0 rfl (lv_at hl 0 rfl) ?_
  refine lv_iconst (v := 0) hx hb dX2_forget_1 (by decide +kernel) ?_
  refine va_put (ci := 2) (v := .int 0) (ty := (.boolean)) (C := RX2) (T := TX2) (N := 9) hx hb hts hi2 tyX2 tyX2_ok nmX2 hown hK hP hD hS 0 rfl rfl 8 (by decide) fl40 (fun _ h9 => h9) rfl (by decide +kernel) (by decide +kernel) (by decide +kernel) (Nat.le_of_ble_eq_true rfl) dX2_forget_2 (fun H locs hP hD hS => ?_)
  have hP : va_P D vwCl (wl_k_X2_forget cI cJ cK xr r1 r2 r3 r4 r5 (nI rz) (nI rv) rw 0) H := hP
  have hD : va_D A (wl_k_X2_forget cI cJ cK xr r1 r2 r3 r4 r5 (nI rz) (nI rv) rw 0) := hD
  exact my_retV hx hb hr hlocks hK hS (wl_k_X2_forget cI cJ cK xr r1 r2 r3 r4 r5 (nI rz) (nI rv) rw 0) hP hD (rfl) dX2_forget_5
set_option maxHeartbeats 4000000 in
set_option maxRecDepth 100000 in
theorem kf_X2_lanesOf (l : Launch) (D : va_G) (cI cJ cK : ClassId) (v : Nat) (hv : v < 256) : cpL l yX2_lanesOf wsX2_lanesOf ({ frames := 0, cells := 0, slots := 0, locals := 0 } : Room) D (tyIJ cI cJ cK) [.int (nI v)] [] (fun (r : Int64) => r = lN (laN v)) := by
  refine cpL.of (cc := cX2_lanesOf) (maxL := 4) (ret := (some .long)) (by decide) rfl (Nat.le_of_ble_eq_true rfl) ?_
  intro p e s m below meth c ls hx hb hr hts hown hml hlocks hname hK hN hP hl
  have hl : lv_has ls 4 [(0, .int (nI v))] := hl
  have hown : s.vm.findClass RX2 = some m.cls := hown
  refine lv_lconst (v := 0) hx hb dX2_lanesOf_0 (by decide +kernel) ?_
  refine lv_lstore_n (lv' := [(1, .long 0), (0, .int (nI v))]) hx hb dX2_lanesOf_1 rfl hl (by decide) rfl (fun ls hl => ?_)
  refine lv_iconst (v := 0) hx hb dX2_lanesOf_2 (by decide +kernel) ?_
  refine lv_istore_n (lv' := [(3, .int 0), (1, .long 0), (0, .int (nI v))]) hx hb dX2_lanesOf_3 rfl hl (by decide) rfl (fun ls hl => ?_)
  have loop4 : ∀ (n9 : Nat) (k : Nat) (y1_4 : Int64), 8 - k < n9 → (k ≤ 8) → (y1_4 = lN (laP v k)) → ∀ (ls : Array Slot), lv_has ls 4 [(3, .int (nI k)), (1, .long y1_4), (0, .int (nI v))] → W p l e ({ frames := 0, cells := 0, slots := 0, locals := 0 } : Room) s m [.int (nI v)].toArray below meth c s.heap [] 0 0 (MQ below (vp_Sl (fun (r : Int64) => r = lN (laN v))) [.int (nI v)].toArray s 0 0 (fun _ => False)) (F0 m 4 ls []) := by
    intro n9
    induction n9 with
    | zero =>
      intro k y1_4 hn9
      exact absurd hn9 (Nat.not_lt_zero _)
    | succ n9 ih4 =>
      intro k y1_4 hn9 hk_k hla ls hl
      refine lv_iload_n hx hb dX2_lanesOf_4 rfl (lv_at hl 0 rfl) ?_
      refine lv_bipush (v := 8) hx hb dX2_lanesOf_5 (by decide +kernel) ?_
      refine lv_icmp_ge (tgt := 30) hx hb dX2_lanesOf_7 (by decide) (fun c7 => ?_) (fun c7 => ?_)
      ·
        have d7 : ((k : Nat) : Int) ≥ (8 : Int) := my_ge c7 (nI_toInt (by omega)) (by decide +kernel)
        have hl8 : y1_4 = lN (laN v) := by rw [hla, show k = 8 from (by omega)]; rfl
        refine lv_lload_n hx hb dX2_lanesOf_30 rfl (lv_at hl 1 rfl) ?_
        exact my_rpL hx hb hr hlocks (hl8) dX2_lanesOf_31
      ·
        have d7 : ((k : Nat) : Int) < (8 : Int) := my_nge c7 (nI_toInt (by omega)) (by decide +kernel)
        refine lv_lload_n hx hb dX2_lanesOf_10 rfl (lv_at hl 1 rfl) ?_
        refine lv_iload_n hx hb dX2_lanesOf_11 rfl (lv_at hl 2 rfl) ?_
        refine lv_iload_n hx hb dX2_lanesOf_12 rfl (lv_at hl 0 rfl) ?_
        refine lv_ishr hx hb dX2_lanesOf_13 ?_
        refine my_eqi (y := nI (v / 2 ^ k)) (my_shrG (by omega) (by omega)) ?_
        refine lv_iconst (v := 1) hx hb dX2_lanesOf_14 (by decide +kernel) ?_
        refine lv_iand hx hb dX2_lanesOf_15 ?_
        refine my_eqi (y := nI ((v / 2 ^ k) % 2)) (my_maskN _ 1) ?_
        refine lv_i2l (v := lN ((v / 2 ^ k) % 2)) hx hb dX2_lanesOf_16 (nI_l (by omega)) ?_
        refine lv_bipush (v := 8) hx hb dX2_lanesOf_17 (by decide +kernel) ?_
        refine lv_iload_n hx hb dX2_lanesOf_19 rfl (lv_at hl 0 rfl) ?_
        refine lv_imul hx hb dX2_lanesOf_20 ?_
        refine my_eqi (y := nI (8 * k)) (my_mulN _ _) ?_
        refine lv_lshl (v := lN (((v / 2 ^ k) % 2) * 256 ^ k)) hx hb dX2_lanesOf_21 (shl_8 (by omega) (by omega)) ?_
        refine lv_lor hx hb dX2_lanesOf_22 ?_
        refine my_eql (y := lN (laP v (k + 1))) (by rw [hla]; exact la_or (tb_bN v k)) ?_
        refine lv_lstore_n (lv' := [(1, .long (lN (laP v (k + 1)))), (3, .int (nI k)), (0, .int (nI v))]) hx hb dX2_lanesOf_23 rfl hl (by decide) rfl (fun ls hl => ?_)
        refine lv_iinc (v := nI (k + 1)) (lv' := [(3, .int (nI (k + 1))), (1, .long (lN (laP v (k + 1)))), (0, .int (nI v))]) hx hb dX2_lanesOf_24 hl (k := 1) rfl (my_incN k 1 (by decide +kernel)) (by decide) rfl (fun ls hl => ?_)
        refine lv_goto (tgt := 4) hx hb dX2_lanesOf_27 (by decide) ?_
        exact ih4  (k + 1) (lN (laP v (k + 1))) (by omega) (by first | assumption | omega | decide +kernel) (rfl) ls (lv_sub hl [0, 1, 2] rfl)
  have ec_1 : (0 : Int64).toInt = 0 := by decide +kernel
  exact loop4 ((8 - 0) + 1) 0 (0 : Int64) (Nat.lt_succ_self _) (by first | assumption | omega | decide +kernel) (rfl) ls (lv_sub hl [0, 1, 2] rfl)
abbrev wl_kf_X2_takeLine (cI cJ cK : ClassId) (xr : Nat) (r1 : Nat) (r2 : Nat) (r3 : Nat) (r4 : Nat) (r5 : Nat) (w0 : Nat) (w1 : Nat) (w2 : Nat) (w3 : Nat) (w4 : Nat) (w5 : Nat) (w6 : Nat) (w7 : Nat) (xn : Nat) (v0_ : Int32) (v1_ : Int32) (v2_ : Int32) (v3_ : Int32) (v4_ : Nat → Int64) (v5_ : Nat → Int32) : va_W := [(xr, .inr (2, [.ref r1, .ref r2, .ref r3, .ref r4, .ref r5, .int v0_, .int v1_, .int v2_, .int v3_])), (r1, .inl (cK, 8, .inr (.inr (.inr (.inr (fun j => ([w0, w1, w2, w3, w4, w5, w6, w7] : List Nat)[j]?)))))), (w0, .inl (cJ, 64, .inr (.inl v4_))), (xn, .inl (cI, 64, .inl v5_))]
set_option maxHeartbeats 4000000 in
set_option maxRecDepth 100000 in
theorem kf_X2_takeLine (l : Launch) (D : va_G) (cI cJ cK : ClassId) (xr : Nat) (r1 : Nat) (r2 : Nat) (r3 : Nat) (r4 : Nat) (r5 : Nat) (w0 : Nat) (w1 : Nat) (w2 : Nat) (w3 : Nat) (w4 : Nat) (w5 : Nat) (w6 : Nat) (w7 : Nat) (xn : Nat) (rz : Nat) (rv : Nat) (rw : Int32) (rk : Int32) (wf0 : Nat → Int64) (nf : Nat → Int32) (hz_rz : rz ≤ 64) (hz_rv : rv ≤ 8) (hR_nf : RB 0 255 nf) : ctI l yX2_takeLine wsX2_takeLine ({ frames := 1, cells := 0, slots := 0, locals := 60 } : Room) D (tyIJ cI cJ cK) [.ref xr, .ref xn] (wl_kf_X2_takeLine cI cJ cK xr r1 r2 r3 r4 r5 w0 w1 w2 w3 w4 w5 w6 w7 xn (nI rz) (nI rv) rw rk wf0 nf) (fun (r : Int32) (u : va_W) => ∃ (v' : Nat) (wf0' : Nat → Int64), u = (wl_kf_X2_takeLine cI cJ cK xr r1 r2 r3 r4 r5 w0 w1 w2 w3 w4 w5 w6 w7 xn (nI rz) (nI rv) rw rk wf0' nf) ∧ r = nI v' ∧ v' ≤ 255 ∧ (∀ q, q < rz → wf0' q = lN (laN (tV0 nf q))) ∧ (∀ c, c < 8 → (oS v' c = true ↔ tV (tV0 nf) rz c))) := by
  refine ctI.of (cc := cX2_takeLine) (maxL := 4) (ret := (some .int)) (by decide) rfl (Nat.le_of_ble_eq_true rfl) ?_
  intro p e s m below meth c ls A hx hb hr hts hown hml hlocks hname hA hK hN hP hD hS hl
  have hl : lv_has ls 4 [(0, .ref xr), (1, .ref xn)] := hl
  have hown : s.vm.findClass RX2 = some m.cls := hown
  have hi2 : ∀ w ∈ u_ws RX2 TX2 9, w ∈ wsX2_takeLine := by decide +kernel
  have fl11 := hts (.fieldLink RX2 11 "PlaneColumn$OrderSearch" "lines" "[[J") (by decide +kernel)
  have fl30 := hts (.fieldLink RX2 30 "PlaneColumn$OrderSearch" "size" "I") (by decide +kernel)
  refine lv_iconst (v := 0) hx hb dX2_takeLine_0 (by decide +kernel) ?_
  refine lv_istore_n (lv' := [(2, .int 0), (0, .ref xr), (1, .ref xn)]) hx hb dX2_takeLine_1 rfl hl (by decide) rfl (fun ls hl => ?_)
  refine lv_iconst (v := 0) hx hb dX2_takeLine_2 (by decide +kernel) ?_
  refine lv_istore_n (lv' := [(3, .int 0), (2, .int 0), (0, .ref xr), (1, .ref xn)]) hx hb dX2_takeLine_3 rfl hl (by decide) rfl (fun ls hl => ?_)
  have loop4 : ∀ (n9 : Nat) (k : Nat) (vv : Nat) (w0_4 : Nat → Int64), rz - k < n9 → (vv ≤ 255) → (k ≤ rz) → (∀ q, q < k → w0_4 q = lN (laN (tV0 nf q))) → (tlP nf vv k) → ∀ (H : Heap) (locs : List Loc) (ls : Array Slot), va_P D vwCl (wl_kf_X2_takeLine cI cJ cK xr r1 r2 r3 r4 r5 w0 w1 w2 w3 w4 w5 w6 w7 xn (nI rz) (nI rv) rw rk w0_4 nf) H → va_D A (wl_kf_X2_takeLine cI cJ cK xr r1 r2 r3 r4 r5 w0 w1 w2 w3 w4 w5 w6 w7 xn (nI rz) (nI rv) rw rk w0_4 nf) → va_S A s.heap H locs → lv_has ls 4 [(3, .int (nI k)), (2, .int (nI vv)), (0, .ref xr), (1, .ref xn)] → W p l e ({ frames := 1, cells := 0, slots := 0, locals := 60 } : Room) s m [.ref xr, .ref xn].toArray below meth c H locs 0 0 (MQ below (va_Qi (fun (r : Int32) (u : va_W) => ∃ (v' : Nat) (wf0' : Nat → Int64), u = (wl_kf_X2_takeLine cI cJ cK xr r1 r2 r3 r4 r5 w0 w1 w2 w3 w4 w5 w6 w7 xn (nI rz) (nI rv) rw rk wf0' nf) ∧ r = nI v' ∧ v' ≤ 255 ∧ (∀ q, q < rz → wf0' q = lN (laN (tV0 nf q))) ∧ (∀ c, c < 8 → (oS v' c = true ↔ tV (tV0 nf) rz c))) (my_B D (tyIJ cI cJ cK) A) A) [.ref xr, .ref xn].toArray s 0 0 A) (F0 m 4 ls []) := by
    intro n9
    induction n9 with
    | zero =>
      intro k vv w0_4 hn9
      exact absurd hn9 (Nat.not_lt_zero _)
    | succ n9 ih4 =>
      intro k vv w0_4 hn9 hk_vv hk_k hlq htl H locs ls hP hD hS hl
      refine lv_iload_n hx hb dX2_takeLine_4 rfl (lv_at hl 0 rfl) ?_
      refine lv_aload_n hx hb dX2_takeLine_5 rfl (lv_at hl 2 rfl) ?_
      refine va_get (ci := 2) (v := .int (nI rz)) (C := RX2) (T := TX2) (N := 9) hx hb hts hi2 hown hK hP 0 rfl rfl 5 (by decide) fl30 (fun _ h9 => h9) rfl dX2_takeLine_6 ?_
      refine lv_icmp_ge (tgt := 42) hx hb dX2_takeLine_9 (by decide) (fun c9 => ?_) (fun c9 => ?_)
      ·
        have d9 : ((k : Nat) : Int) ≥ ((rz : Nat) : Int) := my_ge c9 (nI_toInt (by omega)) (nI_toInt (by omega))
        refine lv_iload_n hx hb dX2_takeLine_42 rfl (lv_at hl 1 rfl) ?_
        exact my_retI hx hb hr hlocks hK hS (wl_kf_X2_takeLine cI cJ cK xr r1 r2 r3 r4 r5 w0 w1 w2 w3 w4 w5 w6 w7 xn (nI rz) (nI rv) rw rk w0_4 nf) hP hD (⟨vv, w0_4, rfl, rfl, (by first | assumption | omega | trivial | decide +kernel), (fun q hq => hlq q (by omega)), (tl_end htl (by omega))⟩) dX2_takeLine_43
      ·
        have d9 : ((k : Nat) : Int) < ((rz : Nat) : Int) := my_nge c9 (nI_toInt (by omega)) (nI_toInt (by omega))
        refine lv_aload_n hx hb dX2_takeLine_12 rfl (lv_at hl 2 rfl) ?_
        refine va_get (ci := 2) (v := .ref r1) (C := RX2) (T := TX2) (N := 9) hx hb hts hi2 hown hK hP 0 rfl rfl 0 (by decide) fl11 (fun _ h9 => h9) rfl dX2_takeLine_13 ?_
        refine lv_iconst (v := 0) hx hb dX2_takeLine_16 (by decide +kernel) ?_
        refine my_aald hx hb hK hP 1 rfl (vp_in_nI (n := 0) (by omega) (by omega)) dX2_takeLine_17 ?_
        refine my_eqa (y := .ref w0) (by rw [show (0 : Int32).toNatClampNeg = 0 by decide +kernel]; rfl) ?_
        refine lv_iload_n hx hb dX2_takeLine_18 rfl (lv_at hl 0 rfl) ?_
        refine lv_aload_n hx hb dX2_takeLine_19 rfl (lv_at hl 3 rfl) ?_
        refine lv_iload_n hx hb dX2_takeLine_20 rfl (lv_at hl 0 rfl) ?_
        have h8k := tV0_8 hR_nf k
        have h80 := tV0_8 hR_nf 0
        refine va_iald hx hb hK hP 3 0 rfl rfl (vp_in_nI (by omega) (by omega)) dX2_takeLine_21 ?_
        refine my_eqi (y := nI (tV0 nf k)) ((congrArg nf (nI_clamp (by omega))).trans (my_nat (hR_nf k).1)) ?_
        refine my_gpL (my_pS (As := [.int (nI (tV0 nf k))]) (rest := [.int (nI k), .ref w0]) ⟨hx, hb, hml, hown, hts⟩ (va_cwS 1 hts gX2_takeLine_X2_lanesOf rfl rfl rfl (by decide +kernel) ⟨Nat.le_of_ble_eq_true rfl, Nat.le_of_ble_eq_true rfl⟩) hN hK hP [] rfl rfl hl.1 rfl (Nat.le_of_ble_eq_true rfl) dX2_takeLine_22 ⟨Nat.le_of_ble_eq_true rfl, Nat.le_of_ble_eq_true rfl⟩  (kf_X2_lanesOf l D cI cJ cK (tV0 nf k) (by first | assumption | omega | decide +kernel))) (fun r hp => ?_)
        obtain rfl := hp
        refine va_last hx hb hK hP hD hS 2 1 rfl rfl (vp_in_nI (by omega) (by omega)) dX2_takeLine_25 (fun H locs hP hD hS => ?_)
        obtain ⟨g_1, eg_1⟩ : ∃ g : Nat → Int64, g = vp_updL w0_4 k (lN (laN (tV0 nf k))) := ⟨_, rfl⟩
        have eU : vp_updL w0_4 (nI k : Int32).toNatClampNeg (lN (laN (tV0 nf k))) = g_1 := by rw [eg_1, show (nI k : Int32).toNatClampNeg = k from nI_clamp (by omega)]
        rw [eU] at hP hD
        have hP : va_P D vwCl (wl_kf_X2_takeLine cI cJ cK xr r1 r2 r3 r4 r5 w0 w1 w2 w3 w4 w5 w6 w7 xn (nI rz) (nI rv) rw rk g_1 nf) H := hP
        have hD : va_D A (wl_kf_X2_takeLine cI cJ cK xr r1 r2 r3 r4 r5 w0 w1 w2 w3 w4 w5 w6 w7 xn (nI rz) (nI rv) rw rk g_1 nf) := hD
        refine lv_iload_n hx hb dX2_takeLine_26 rfl (lv_at hl 1 rfl) ?_
        refine lv_aload_n hx hb dX2_takeLine_27 rfl (lv_at hl 3 rfl) ?_
        refine lv_iload_n hx hb dX2_takeLine_28 rfl (lv_at hl 0 rfl) ?_
        refine va_iald hx hb hK hP 3 0 rfl rfl (vp_in_nI (by omega) (by omega)) dX2_takeLine_29 ?_
        refine my_eqi (y := nI (tV0 nf k)) ((congrArg nf (nI_clamp (by omega))).trans (my_nat (hR_nf k).1)) ?_
        refine lv_aload_n hx hb dX2_takeLine_30 rfl (lv_at hl 3 rfl) ?_
        refine lv_iconst (v := 0) hx hb dX2_takeLine_31 (by decide +kernel) ?_
        refine va_iald hx hb hK hP 3 0 rfl rfl (vp_in_nI (n := 0) (by omega) (by omega)) dX2_takeLine_32 ?_
        refine my_eqi (y := nI (tV0 nf 0)) ((congrArg nf (show (0 : Int32).toNatClampNeg = 0 by decide +kernel)).trans (my_nat (hR_nf 0).1)) ?_
        refine lv_ixor hx hb dX2_takeLine_33 ?_
        refine my_eqi (y := nI ((tV0 nf k) ^^^ (tV0 nf 0))) (fb_xorI _ _) ?_
        try have hxl_2 : (tV0 nf k) ^^^ (tV0 nf 0) < 256 := Nat.xor_lt_two_pow (n := 8) (by omega) (by omega)
        refine lv_ior hx hb dX2_takeLine_34 ?_
        refine my_eqi (y := nI (vv ||| ((tV0 nf k) ^^^ (tV0 nf 0)))) (fa_or _ _) ?_
        refine lv_istore_n (lv' := [(2, .int (nI (vv ||| ((tV0 nf k) ^^^ (tV0 nf 0))))), (3, .int (nI k)), (0, .ref xr), (1, .ref xn)]) hx hb dX2_takeLine_35 rfl hl (by decide) rfl (fun ls hl => ?_)
        refine lv_iinc (v := nI (k + 1)) (lv' := [(3, .int (nI (k + 1))), (2, .int (nI (vv ||| ((tV0 nf k) ^^^ (tV0 nf 0))))), (0, .ref xr), (1, .ref xn)]) hx hb dX2_takeLine_36 hl (k := 1) rfl (my_incN k 1 (by decide +kernel)) (by decide) rfl (fun ls hl => ?_)
        refine lv_goto (tgt := 4) hx hb dX2_takeLine_39 (by decide) ?_
        exact ih4  (k + 1) (vv ||| ((tV0 nf k) ^^^ (tV0 nf 0))) g_1 (by omega) (by have h9 : vv ||| (tV0 nf k ^^^ tV0 nf 0) < 2 ^ 8 := Nat.or_lt_two_pow (by omega) (Nat.xor_lt_two_pow (tV0_8 hR_nf k) (tV0_8 hR_nf 0)); omega) (by first | assumption | omega | decide +kernel) (ln_step (F := fun q => lN (laN (tV0 nf q))) (by assumption) rfl hlq) (tl_step htl rfl rfl) _ _ ls hP hD hS (lv_sub hl [0, 1, 2, 3] rfl)
  exact loop4 ((rz - 0) + 1) 0 0 wf0 (Nat.lt_succ_self _) (by first | assumption | omega | decide +kernel) (by first | assumption | omega | decide +kernel) (fun q h => absurd h (Nat.not_lt_zero q)) (tl_0) _ _ ls hP hD hS (lv_sub hl [0, 1, 2, 3] rfl)
set_option maxHeartbeats 4000000 in
set_option maxRecDepth 100000 in
theorem kf_X2_changesOf (l : Launch) (D : va_G) (cI cJ cK : ClassId) (xr : Nat) (r1 : Nat) (r2 : Nat) (r3 : Nat) (r4 : Nat) (r5 : Nat) (wa : Nat) (rz : Nat) (rv : Nat) (rw : Int32) (rk : Int32) (wfa : Nat → Int64) (vg : Nat → Nat) (hz_rz : rz ≤ 64) (hz_rv : rv ≤ 8) (hln : ∀ i, i < rz → wfa i = lN (laN (vg i))) (hv8 : ∀ i, i < rz → vg i < 256) : cpL l yX2_changesOf wsX2_changesOf ({ frames := 0, cells := 0, slots := 0, locals := 0 } : Room) D (tyIJ cI cJ cK) [.ref xr, .ref wa] [(xr, .inr (2, [.ref r1, .ref r2, .ref r3, .ref r4, .ref r5, .int (nI rz), .int (nI rv), .int rw, .int rk])), (wa, .inl (cJ, 64, .inr (.inl wfa)))] (fun (r : Int64) => ∃ (c' : Nat), r = lN c' ∧ c' = chS vg (rz - 1) ∧ True) := by
  refine cpL.of (cc := cX2_changesOf) (maxL := 5) (ret := (some .long)) (by decide) rfl (Nat.le_of_ble_eq_true rfl) ?_
  intro p e s m below meth c ls hx hb hr hts hown hml hlocks hname hK hN hP hl
  have hl : lv_has ls 5 [(0, .ref xr), (1, .ref wa)] := hl
  have hown : s.vm.findClass RX2 = some m.cls := hown
  have hi2 : ∀ w ∈ u_ws RX2 TX2 9, w ∈ wsX2_changesOf := by decide +kernel
  have fl30 := hts (.fieldLink RX2 30 "PlaneColumn$OrderSearch" "size" "I") (by decide +kernel)
  refine lv_lconst (v := 0) hx hb dX2_changesOf_0 (by decide +kernel) ?_
  refine lv_lstore_n (lv' := [(2, .long 0), (0, .ref xr), (1, .ref wa)]) hx hb dX2_changesOf_1 rfl hl (by decide) rfl (fun ls hl => ?_)
  refine lv_iconst (v := 1) hx hb dX2_changesOf_2 (by decide +kernel) ?_
  refine lv_istore (lv' := [(4, .int 1), (2, .long 0), (0, .ref xr), (1, .ref wa)]) hx hb dX2_changesOf_3 hl (by decide) rfl (fun ls hl => ?_)
  have loop5 : ∀ (n9 : Nat) (k : Nat) (y2_5 : Int64), 64 - k < n9 → (1 ≤ k) → (k ≤ 64) → (k ≤ rz ∨ k = 1) → (y2_5 = lN (chS vg (k - 1))) → ∀ (ls : Array Slot), lv_has ls 5 [(4, .int (nI k)), (2, .long y2_5), (0, .ref xr), (1, .ref wa)] → W p l e ({ frames := 0, cells := 0, slots := 0, locals := 0 } : Room) s m [.ref xr, .ref wa].toArray below meth c s.heap [] 0 0 (MQ below (vp_Sl (fun (r : Int64) => ∃ (c' : Nat), r = lN c' ∧ c' = chS vg (rz - 1) ∧ True)) [.ref xr, .ref wa].toArray s 0 0 (fun _ => False)) (F0 m 5 ls []) := by
    intro n9
    induction n9 with
    | zero =>
      intro k y2_5 hn9
      exact absurd hn9 (Nat.not_lt_zero _)
    | succ n9 ih5 =>
      intro k y2_5 hn9 h1 h2 hkz hch ls hl
      refine lv_iload hx hb dX2_changesOf_5 (lv_at hl 0 rfl) ?_
      refine lv_aload_n hx hb dX2_changesOf_7 rfl (lv_at hl 2 rfl) ?_
      refine va_get (ci := 2) (v := .int (nI rz)) (C := RX2) (T := TX2) (N := 9) hx hb hts hi2 hown hK hP 0 rfl rfl 5 (by decide) fl30 (fun _ h9 => h9) rfl dX2_changesOf_8 ?_
      refine lv_icmp_ge (tgt := 34) hx hb dX2_changesOf_11 (by decide) (fun c11 => ?_) (fun c11 => ?_)
      ·
        have d11 : ((k : Nat) : Int) ≥ ((rz : Nat) : Int) := my_ge c11 (nI_toInt (by omega)) (nI_toInt (by omega))
        have hc8 : y2_5 = lN (chS vg (rz - 1)) := by rw [hch]; congr 2; omega
        refine lv_lload_n hx hb dX2_changesOf_34 rfl (lv_at hl 1 rfl) ?_
        exact my_rpL hx hb hr hlocks (⟨(chS vg (rz - 1)), hc8, rfl, (by first | assumption | omega | trivial | decide +kernel)⟩) dX2_changesOf_35
      ·
        have d11 : ((k : Nat) : Int) < ((rz : Nat) : Int) := my_nge c11 (nI_toInt (by omega)) (nI_toInt (by omega))
        refine lv_lload_n hx hb dX2_changesOf_14 rfl (lv_at hl 1 rfl) ?_
        refine lv_aload_n hx hb dX2_changesOf_15 rfl (lv_at hl 3 rfl) ?_
        refine lv_iload hx hb dX2_changesOf_16 (lv_at hl 0 rfl) ?_
        refine va_lald hx hb hK hP 1 1 rfl rfl (vp_in_nI (by omega) (by omega)) dX2_changesOf_18 ?_
        refine my_eql (y := wfa k) (congrArg wfa (nI_clamp (by omega))) ?_
        refine lv_aload_n hx hb dX2_changesOf_19 rfl (lv_at hl 3 rfl) ?_
        refine lv_iload hx hb dX2_changesOf_20 (lv_at hl 0 rfl) ?_
        refine lv_iconst (v := 1) hx hb dX2_changesOf_22 (by decide +kernel) ?_
        refine lv_isub hx hb dX2_changesOf_23 ?_
        refine my_eqi (y := nI (k - 1)) (my_subN (a := k) (b := 1) (by omega)) ?_
        refine va_lald hx hb hK hP 1 1 rfl rfl (vp_in_nI (by omega) (by omega)) dX2_changesOf_24 ?_
        refine my_eql (y := wfa (k - 1)) (congrArg wfa (nI_clamp (by omega))) ?_
        refine lv_lxor hx hb dX2_changesOf_25 ?_
        refine lv_topl (fun z_3 ez_3 => ?_)
        refine lv_ladd hx hb dX2_changesOf_26 ?_
        refine lv_topl (fun z_4 ez_4 => ?_)
        refine lv_lstore_n (lv' := [(2, .long z_4), (4, .int (nI k)), (0, .ref xr), (1, .ref wa)]) hx hb dX2_changesOf_27 rfl hl (by decide) rfl (fun ls hl => ?_)
        refine lv_iinc (v := nI (k + 1)) (lv' := [(4, .int (nI (k + 1))), (2, .long z_4), (0, .ref xr), (1, .ref wa)]) hx hb dX2_changesOf_28 hl (k := 1) rfl (my_incN k 1 (by decide +kernel)) (by decide) rfl (fun ls hl => ?_)
        refine lv_goto (tgt := 5) hx hb dX2_changesOf_31 (by decide) ?_
        exact ih5  (k + 1) z_4 (by omega) (by first | assumption | omega | decide +kernel) (by first | assumption | omega | decide +kernel) (by first | assumption | omega | decide +kernel) (ch_step hln hv8 hch (by assumption) (by assumption) h1 (by omega)) ls (lv_sub hl [0, 1, 2, 3] rfl)
  have ec_5 : (0 : Int64).toInt = 0 := by decide +kernel
  exact loop5 ((64 - 1) + 1) 1 (0 : Int64) (Nat.lt_succ_self _) (by first | assumption | omega | decide +kernel) (by first | assumption | omega | decide +kernel) (by first | assumption | omega | decide +kernel) (by rw [show (1 - 1 : Nat) = 0 from rfl, chS_0]; rfl) ls (lv_sub hl [0, 1, 2, 3] rfl)
abbrev wl_kf_X2_part (cI cJ cK : ClassId) (xr : Nat) (r1 : Nat) (r2 : Nat) (r3 : Nat) (r4 : Nat) (r5 : Nat) (wa : Nat) (wb : Nat) (v0_ : Int32) (v1_ : Int32) (v2_ : Int32) (v3_ : Int32) (v4_ : Nat → Int64) (v5_ : Nat → Int64) (v6_ : Nat → Int64) : va_W := [(xr, .inr (2, [.ref r1, .ref r2, .ref r3, .ref r4, .ref r5, .int v0_, .int v1_, .int v2_, .int v3_])), (r2, .inl (cJ, 64, .inr (.inl v4_))), (wa, .inl (cJ, 64, .inr (.inl v5_))), (wb, .inl (cJ, 64, .inr (.inl v6_)))]
set_option maxHeartbeats 4000000 in
set_option maxRecDepth 100000 in
theorem kf_X2_part (l : Launch) (D : va_G) (cI cJ cK : ClassId) (xr : Nat) (r1 : Nat) (r2 : Nat) (r3 : Nat) (r4 : Nat) (r5 : Nat) (wa : Nat) (wb : Nat) (rz : Nat) (rv : Nat) (rw : Int32) (rk : Int32) (ro : Nat → Int64) (wfa : Nat → Int64) (wfb : Nat → Int64) (bb : Nat) (vg : Nat → Nat) (hz_rz : rz ≤ 64) (hz_rv : rv ≤ 8) (hb8 : bb < 8) (hln : ∀ i, i < rz → wfa i = lN (laN (vg i))) : ctV l yX2_part wsX2_part ({ frames := 2, cells := 0, slots := 0, locals := 120 } : Room) D (tyIJ cI cJ cK) [.ref xr, .ref wa, .ref wb, .int (nI bb)] (wl_kf_X2_part cI cJ cK xr r1 r2 r3 r4 r5 wa wb (nI rz) (nI rv) rw rk ro wfa wfb) (fun (u : va_W) => ∃ (ro' : Nat → Int64) (wfb' : Nat → Int64), u = (wl_kf_X2_part cI cJ cK xr r1 r2 r3 r4 r5 wa wb (nI rz) (nI rv) rw rk ro' wfa wfb') ∧ (∀ i, i < rz → wfb' i = lN (laN (tP vg bb rz i))) ∧ True) := by
  refine ctV.of (cc := cX2_part) (maxL := 9) (ret := none) (by decide) rfl (Nat.le_of_ble_eq_true rfl) ?_
  intro p e s m below meth c ls A hx hb hr hts hown hml hlocks hname hA hK hN hP hD hS hl
  have hl : lv_has ls 9 [(0, .ref xr), (1, .ref wa), (2, .ref wb), (3, .int (nI bb))] := hl
  have hown : s.vm.findClass RX2 = some m.cls := hown
  have hi2 : ∀ w ∈ u_ws RX2 TX2 9, w ∈ wsX2_part := by decide +kernel
  have fl16 := hts (.fieldLink RX2 16 "PlaneColumn$OrderSearch" "ones" "[J") (by decide +kernel)
  have fl30 := hts (.fieldLink RX2 30 "PlaneColumn$OrderSearch" "size" "I") (by decide +kernel)
  refine lv_lconst (v := 1) hx hb dX2_part_0 (by decide +kernel) ?_
  refine lv_bipush (v := 8) hx hb dX2_part_1 (by decide +kernel) ?_
  refine lv_iload_n hx hb dX2_part_3 rfl (lv_at hl 3 rfl) ?_
  refine lv_imul hx hb dX2_part_4 ?_
  refine my_eqi (y := nI (8 * bb)) (my_mulN _ _) ?_
  refine lv_lshl (v := lN (256 ^ bb)) hx hb dX2_part_5 (by rw [← Nat.one_mul (256 ^ bb)]; exact shl_8 (w := 1) (by omega) hb8) ?_
  refine lv_lstore (lv' := [(4, .long (lN (256 ^ bb))), (0, .ref xr), (1, .ref wa), (2, .ref wb), (3, .int (nI bb))]) hx hb dX2_part_6 hl (by decide) rfl (fun ls hl => ?_)
  refine lv_iconst (v := 0) hx hb dX2_part_8 (by decide +kernel) ?_
  refine lv_istore (lv' := [(6, .int 0), (4, .long (lN (256 ^ bb))), (0, .ref xr), (1, .ref wa), (2, .ref wb), (3, .int (nI bb))]) hx hb dX2_part_9 hl (by decide) rfl (fun ls hl => ?_)
  refine lv_iconst (v := 0) hx hb dX2_part_11 (by decide +kernel) ?_
  refine lv_istore (lv' := [(7, .int 0), (6, .int 0), (4, .long (lN (256 ^ bb))), (0, .ref xr), (1, .ref wa), (2, .ref wb), (3, .int (nI bb))]) hx hb dX2_part_12 hl (by decide) rfl (fun ls hl => ?_)
  refine lv_iconst (v := 0) hx hb dX2_part_14 (by decide +kernel) ?_
  refine lv_istore (lv' := [(8, .int 0), (7, .int 0), (6, .int 0), (4, .long (lN (256 ^ bb))), (0, .ref xr), (1, .ref wa), (2, .ref wb), (3, .int (nI bb))]) hx hb dX2_part_15 hl (by decide) rfl (fun ls hl => ?_)
  have loop17 : ∀ (n9 : Nat) (k : Nat) (b : Nat) (a : Nat) (r2_17 : Nat → Int64) (wb_17 : Nat → Int64), rz - k < n9 → (a ≤ 64) → (b ≤ 64) → (k ≤ rz) → (a + b = k) → (b = fb_ct (tB vg bb) k) → (∀ q, q < k → tB vg bb q = false → wb_17 (q - fb_ct (tB vg bb) q) = wfa q) → (∀ q, q < k → tB vg bb q = true → r2_17 (fb_ct (tB vg bb) q) = wfa q) → ∀ (H : Heap) (locs : List Loc) (ls : Array Slot), va_P D vwCl (wl_kf_X2_part cI cJ cK xr r1 r2 r3 r4 r5 wa wb (nI rz) (nI rv) rw rk r2_17 wfa wb_17) H → va_D A (wl_kf_X2_part cI cJ cK xr r1 r2 r3 r4 r5 wa wb (nI rz) (nI rv) rw rk r2_17 wfa wb_17) → va_S A s.heap H locs → lv_has ls 9 [(8, .int (nI k)), (7, .int (nI b)), (6, .int (nI a)), (4, .long (lN (256 ^ bb))), (0, .ref xr), (1, .ref wa), (2, .ref wb), (3, .int (nI bb))] → W p l e ({ frames := 2, cells := 0, slots := 0, locals := 120 } : Room) s m [.ref xr, .ref wa, .ref wb, .int (nI bb)].toArray below meth c H locs 0 0 (MQ below (va_Qv (fun (u : va_W) => ∃ (ro' : Nat → Int64) (wfb' : Nat → Int64), u = (wl_kf_X2_part cI cJ cK xr r1 r2 r3 r4 r5 wa wb (nI rz) (nI rv) rw rk ro' wfa wfb') ∧ (∀ i, i < rz → wfb' i = lN (laN (tP vg bb rz i))) ∧ True) (my_B D (tyIJ cI cJ cK) A) A) [.ref xr, .ref wa, .ref wb, .int (nI bb)].toArray s 0 0 A) (F0 m 17 ls []) := by
    intro n9
    induction n9 with
    | zero =>
      intro k b a r2_17 wb_17 hn9
      exact absurd hn9 (Nat.not_lt_zero _)
    | succ n9 ih17 =>
      intro k b a r2_17 wb_17 hn9 hk_a hk_b hk_k hab hbc hz1 hz2 H locs ls hP hD hS hl
      refine lv_iload hx hb dX2_part_17 (lv_at hl 0 rfl) ?_
      refine lv_aload_n hx hb dX2_part_19 rfl (lv_at hl 4 rfl) ?_
      refine va_get (ci := 2) (v := .int (nI rz)) (C := RX2) (T := TX2) (N := 9) hx hb hts hi2 hown hK hP 0 rfl rfl 5 (by decide) fl30 (fun _ h9 => h9) rfl dX2_part_20 ?_
      refine lv_icmp_ge (tgt := 72) hx hb dX2_part_23 (by decide) (fun c23 => ?_) (fun c23 => ?_)
      ·
        have d23 : ((k : Nat) : Int) ≥ ((rz : Nat) : Int) := my_ge c23 (nI_toInt (by omega)) (nI_toInt (by omega))
        have ek9 : k = rz := by omega
        rw [ek9] at hbc hz1 hz2
        refine lv_aload_n hx hb dX2_part_72 rfl (lv_at hl 4 rfl) ?_
        refine va_get (ci := 2) (v := .ref r2) (C := RX2) (T := TX2) (N := 9) hx hb hts hi2 hown hK hP 0 rfl rfl 1 (by decide) fl16 (fun _ h9 => h9) rfl dX2_part_73 ?_
        refine lv_iconst (v := 0) hx hb dX2_part_76 (by decide +kernel) ?_
        refine lv_aload_n hx hb dX2_part_77 rfl (lv_at hl 6 rfl) ?_
        refine lv_iload hx hb dX2_part_78 (lv_at hl 2 rfl) ?_
        refine lv_iload hx hb dX2_part_80 (lv_at hl 1 rfl) ?_
        refine va_copyl hx hb (hml.trans hl.1.symm) hown (hts (.methodLink RX2 75 arraycopyName) (by decide +kernel)) (hts (.native arraycopyName) (by decide +kernel)) (hts (.static arraycopyName) (by decide +kernel)) (hts (.initialized "java/lang/System") (by decide +kernel)) hK hP hD hS 1 3 1 1 rfl rfl rfl rfl rfl (by decide +kernel) (nI_nneg (by omega)) (nI_nneg (by omega)) (by rw [show (0 : Int32).toNatClampNeg = 0 from (by decide +kernel), show (nI b : Int32).toNatClampNeg = b from (nI_clamp (by omega))]; omega) (by rw [show (nI a : Int32).toNatClampNeg = a from (nI_clamp (by omega)), show (nI b : Int32).toNatClampNeg = b from (nI_clamp (by omega))]; omega) (fun _ _ => rfl) (Nat.le_of_ble_eq_true rfl) (Nat.le_of_ble_eq_true rfl) dX2_part_82 (fun H locs hP hD hS => ?_)
        obtain ⟨g_1, eg_1⟩ : ∃ g : Nat → Int64, g = va_cpy r2_17 wb_17 0 a b := ⟨_, rfl⟩
        have eU : va_cpy r2_17 wb_17 (0 : Int32).toNatClampNeg (nI a : Int32).toNatClampNeg (nI b : Int32).toNatClampNeg = g_1 := by rw [eg_1, show (0 : Int32).toNatClampNeg = 0 from (by decide +kernel), show (nI a : Int32).toNatClampNeg = a from (nI_clamp (by omega)), show (nI b : Int32).toNatClampNeg = b from (nI_clamp (by omega))]
        rw [eU] at hP hD
        have hP : va_P D vwCl (wl_kf_X2_part cI cJ cK xr r1 r2 r3 r4 r5 wa wb (nI rz) (nI rv) rw rk r2_17 wfa g_1) H := hP
        have hD : va_D A (wl_kf_X2_part cI cJ cK xr r1 r2 r3 r4 r5 wa wb (nI rz) (nI rv) rw rk r2_17 wfa g_1) := hD
        exact my_retV hx hb hr hlocks hK hS (wl_kf_X2_part cI cJ cK xr r1 r2 r3 r4 r5 wa wb (nI rz) (nI rv) rw rk r2_17 wfa g_1) hP hD (⟨r2_17, g_1, rfl, (pt_lines (prL_end (a := a) (c := b) hz1 hz2 (by omega) hbc (by assumption)) hln), (by first | assumption | omega | trivial | decide +kernel)⟩) dX2_part_85
      ·
        have d23 : ((k : Nat) : Int) < ((rz : Nat) : Int) := my_nge c23 (nI_toInt (by omega)) (nI_toInt (by omega))
        refine lv_aload_n hx hb dX2_part_26 rfl (lv_at hl 5 rfl) ?_
        refine lv_iload hx hb dX2_part_27 (lv_at hl 0 rfl) ?_
        refine va_lald hx hb hK hP 2 1 rfl rfl (vp_in_nI (by omega) (by omega)) dX2_part_29 ?_
        refine my_eql (y := wfa k) (congrArg wfa (nI_clamp (by omega))) ?_
        refine lv_lload hx hb dX2_part_30 (lv_at hl 3 rfl) ?_
        refine lv_land hx hb dX2_part_32 ?_
        refine lv_topl (fun z_3 ez_3 => ?_)
        refine lv_lconst (v := 0) hx hb dX2_part_33 (by decide +kernel) ?_
        refine W.lcmp hx hb dX2_part_34 ?_
        refine lv_if_ne (tgt := 52) hx hb dX2_part_35 (by decide) (fun c35 => ?_) (fun c35 => ?_)
        ·
          have d35 : z_3.toInt ≠ (0 : Int) := my_lne c35 rfl (by decide +kernel)
          refine lv_aload_n hx hb dX2_part_52 rfl (lv_at hl 4 rfl) ?_
          refine va_get (ci := 2) (v := .ref r2) (C := RX2) (T := TX2) (N := 9) hx hb hts hi2 hown hK hP 0 rfl rfl 1 (by decide) fl16 (fun _ h9 => h9) rfl dX2_part_53 ?_
          refine lv_iload hx hb dX2_part_56 (lv_at hl 1 rfl) ?_
          refine lv_aload_n hx hb dX2_part_58 rfl (lv_at hl 5 rfl) ?_
          refine lv_iload hx hb dX2_part_59 (lv_at hl 0 rfl) ?_
          refine va_lald hx hb hK hP 2 1 rfl rfl (vp_in_nI (by omega) (by omega)) dX2_part_61 ?_
          refine my_eql (y := wfa k) (congrArg wfa (nI_clamp (by omega))) ?_
          refine va_last hx hb hK hP hD hS 1 1 rfl rfl (vp_in_nI (by omega) (by omega)) dX2_part_62 (fun H locs hP hD hS => ?_)
          obtain ⟨g_5, eg_5⟩ : ∃ g : Nat → Int64, g = vp_updL r2_17 b (wfa k) := ⟨_, rfl⟩
          have eU : vp_updL r2_17 (nI b : Int32).toNatClampNeg (wfa k) = g_5 := by rw [eg_5, show (nI b : Int32).toNatClampNeg = b from nI_clamp (by omega)]
          rw [eU] at hP hD
          have hP : va_P D vwCl (wl_kf_X2_part cI cJ cK xr r1 r2 r3 r4 r5 wa wb (nI rz) (nI rv) rw rk g_5 wfa wb_17) H := hP
          have hD : va_D A (wl_kf_X2_part cI cJ cK xr r1 r2 r3 r4 r5 wa wb (nI rz) (nI rv) rw rk g_5 wfa wb_17) := hD
          refine lv_iinc (v := nI (b + 1)) (lv' := [(7, .int (nI (b + 1))), (8, .int (nI k)), (6, .int (nI a)), (4, .long (lN (256 ^ bb))), (0, .ref xr), (1, .ref wa), (2, .ref wb), (3, .int (nI bb))]) hx hb dX2_part_63 hl (k := 1) rfl (my_incN b 1 (by decide +kernel)) (by decide) rfl (fun ls hl => ?_)
          refine lv_iinc (v := nI (k + 1)) (lv' := [(8, .int (nI (k + 1))), (7, .int (nI (b + 1))), (6, .int (nI a)), (4, .long (lN (256 ^ bb))), (0, .ref xr), (1, .ref wa), (2, .ref wb), (3, .int (nI bb))]) hx hb dX2_part_66 hl (k := 1) rfl (my_incN k 1 (by decide +kernel)) (by decide) rfl (fun ls hl => ?_)
          refine lv_goto (tgt := 17) hx hb dX2_part_69 (by decide) ?_
          exact ih17  (k + 1) (b + 1) a g_5 wb_17 (by omega) (by first | assumption | omega | decide +kernel) (by first | assumption | omega | decide +kernel) (by first | assumption | omega | decide +kernel) (by first | assumption | omega | decide +kernel) (by first | exact ct_yes hbc ((msk_z (hln k (by omega)) rfl hb8 (by assumption)).2 d35) | exact ct_no hbc ((msk_z (hln k (by omega)) rfl hb8 (by assumption)).1 d35)) (by first | exact prL_z (a := a) hz1 ((msk_z (hln k (by omega)) rfl hb8 (by assumption)).1 d35) (by omega) (by assumption) rfl | exact prL_zk hz1 ((msk_z (hln k (by omega)) rfl hb8 (by assumption)).2 d35)) (by first | exact prL_o (a := b) hz2 ((msk_z (hln k (by omega)) rfl hb8 (by assumption)).2 d35) (by omega) (by assumption) rfl | exact prL_ok hz2 ((msk_z (hln k (by omega)) rfl hb8 (by assumption)).1 d35)) _ _ ls hP hD hS (lv_sub hl [0, 1, 2, 3, 4, 5, 6, 7] rfl)
        ·
          have d35 : z_3.toInt = (0 : Int) := my_leq c35 rfl (by decide +kernel)
          refine lv_aload_n hx hb dX2_part_38 rfl (lv_at hl 6 rfl) ?_
          refine lv_iload hx hb dX2_part_39 (lv_at hl 2 rfl) ?_
          refine lv_aload_n hx hb dX2_part_41 rfl (lv_at hl 5 rfl) ?_
          refine lv_iload hx hb dX2_part_42 (lv_at hl 0 rfl) ?_
          refine va_lald hx hb hK hP 2 1 rfl rfl (vp_in_nI (by omega) (by omega)) dX2_part_44 ?_
          refine my_eql (y := wfa k) (congrArg wfa (nI_clamp (by omega))) ?_
          refine va_last hx hb hK hP hD hS 3 1 rfl rfl (vp_in_nI (by omega) (by omega)) dX2_part_45 (fun H locs hP hD hS => ?_)
          obtain ⟨g_7, eg_7⟩ : ∃ g : Nat → Int64, g = vp_updL wb_17 a (wfa k) := ⟨_, rfl⟩
          have eU : vp_updL wb_17 (nI a : Int32).toNatClampNeg (wfa k) = g_7 := by rw [eg_7, show (nI a : Int32).toNatClampNeg = a from nI_clamp (by omega)]
          rw [eU] at hP hD
          have hP : va_P D vwCl (wl_kf_X2_part cI cJ cK xr r1 r2 r3 r4 r5 wa wb (nI rz) (nI rv) rw rk r2_17 wfa g_7) H := hP
          have hD : va_D A (wl_kf_X2_part cI cJ cK xr r1 r2 r3 r4 r5 wa wb (nI rz) (nI rv) rw rk r2_17 wfa g_7) := hD
          refine lv_iinc (v := nI (a + 1)) (lv' := [(6, .int (nI (a + 1))), (8, .int (nI k)), (7, .int (nI b)), (4, .long (lN (256 ^ bb))), (0, .ref xr), (1, .ref wa), (2, .ref wb), (3, .int (nI bb))]) hx hb dX2_part_46 hl (k := 2) rfl (my_incN a 1 (by decide +kernel)) (by decide) rfl (fun ls hl => ?_)
          refine lv_goto (tgt := 66) hx hb dX2_part_49 (by decide) ?_
          refine lv_iinc (v := nI (k + 1)) (lv' := [(8, .int (nI (k + 1))), (6, .int (nI (a + 1))), (7, .int (nI b)), (4, .long (lN (256 ^ bb))), (0, .ref xr), (1, .ref wa), (2, .ref wb), (3, .int (nI bb))]) hx hb dX2_part_66 hl (k := 1) rfl (my_incN k 1 (by decide +kernel)) (by decide) rfl (fun ls hl => ?_)
          refine lv_goto (tgt := 17) hx hb dX2_part_69 (by decide) ?_
          exact ih17  (k + 1) b (a + 1) r2_17 g_7 (by omega) (by first | assumption | omega | decide +kernel) (by first | assumption | omega | decide +kernel) (by first | assumption | omega | decide +kernel) (by first | assumption | omega | decide +kernel) (by first | exact ct_yes hbc ((msk_z (hln k (by omega)) rfl hb8 (by assumption)).2 d35) | exact ct_no hbc ((msk_z (hln k (by omega)) rfl hb8 (by assumption)).1 d35)) (by first | exact prL_z (a := a) hz1 ((msk_z (hln k (by omega)) rfl hb8 (by assumption)).1 d35) (by omega) (by assumption) rfl | exact prL_zk hz1 ((msk_z (hln k (by omega)) rfl hb8 (by assumption)).2 d35)) (by first | exact prL_o (a := b) hz2 ((msk_z (hln k (by omega)) rfl hb8 (by assumption)).2 d35) (by omega) (by assumption) rfl | exact prL_ok hz2 ((msk_z (hln k (by omega)) rfl hb8 (by assumption)).1 d35)) _ _ ls hP hD hS (lv_sub hl [0, 2, 1, 3, 4, 5, 6, 7] rfl)
  exact loop17 ((rz - 0) + 1) 0 0 0 ro wfb (Nat.lt_succ_self _) (by first | assumption | omega | decide +kernel) (by first | assumption | omega | decide +kernel) (by first | assumption | omega | decide +kernel) (by first | assumption | omega | decide +kernel) (rfl) (fun q h => absurd h (Nat.not_lt_zero q)) (fun q h => absurd h (Nat.not_lt_zero q)) _ _ ls hP hD hS (lv_sub hl [0, 1, 2, 3, 4, 5, 6, 7] rfl)
abbrev wl_kf_X2_takeBit_7 (cI cJ cK : ClassId) (xr : Nat) (r1 : Nat) (r2 : Nat) (r3 : Nat) (r4 : Nat) (r5 : Nat) (w0 : Nat) (w1 : Nat) (w2 : Nat) (w3 : Nat) (w4 : Nat) (w5 : Nat) (w6 : Nat) (w7 : Nat) (v0_ : Int32) (v1_ : Int32) (v2_ : Int32) (v3_ : Int32) (v4_ : Nat → Int64) (v5_ : Nat → Int32) (v6_ : Nat → Int32) (v7_ : Nat → Int64) : va_W := [(xr, .inr (2, [.ref r1, .ref r2, .ref r3, .ref r4, .ref r5, .int v0_, .int v1_, .int v2_, .int v3_])), (r1, .inl (cK, 8, .inr (.inr (.inr (.inr (fun j => ([w0, w1, w2, w3, w4, w5, w6, w7] : List Nat)[j]?)))))), (r2, .inl (cJ, 64, .inr (.inl v4_))), (r3, .inl (cI, 8, .inl v5_)), (r4, .inl (cI, 8, .inl v6_)), (w7, .inl (cJ, 64, .inr (.inl v7_)))]
set_option maxHeartbeats 4000000 in
set_option maxRecDepth 100000 in
theorem kf_X2_takeBit_7 (l : Launch) (D : va_G) (cI cJ cK : ClassId) (xr : Nat) (r1 : Nat) (r2 : Nat) (r3 : Nat) (r4 : Nat) (r5 : Nat) (w0 : Nat) (w1 : Nat) (w2 : Nat) (w3 : Nat) (w4 : Nat) (w5 : Nat) (w6 : Nat) (w7 : Nat) (rz : Nat) (rv : Nat) (rw : Int32) (rk : Int32) (ro : Nat → Int64) (rt : Nat → Int32) (rb : Nat → Int32) (wf7 : Nat → Int64) (O : Nat) (ru : Nat) (b : Nat) (F : Nat) (vg : Nat → Nat) (hz_rz : rz ≤ 64) (hz_rv : rv ≤ 8) (hb8 : b < 8) (hrt : rt 7 = nI b) (hO : O < 256) (hcd : tC (oS O) + 8 = rv) (hvr : ∀ c, c < 8 → oS O c = true → tV vg rz c) (hfw : rw = nI F) (hF : F ≤ 513) (hru : ru < F) (hru6 : ru ≤ 512) (hln : ∀ i, i < rz → wf7 i = lN (laN (vg i))) (hv8 : ∀ i, i < rz → vg i < 256) : ctV l yX2_takeBit wsX2_takeBit ({ frames := 2, cells := 0, slots := 0, locals := 120 } : Room) D (tyIJ cI cJ cK) [.ref xr, .int 7, .int (nI O), .int (nI ru)] (wl_kf_X2_takeBit_7 cI cJ cK xr r1 r2 r3 r4 r5 w0 w1 w2 w3 w4 w5 w6 w7 (nI rz) (nI rv) rw rk ro rt rb wf7) (fun (u : va_W) => ∃ (rw' : Int32) (rk' : Int32) (ro' : Nat → Int64) (rt' : Nat → Int32) (rb' : Nat → Int32), u = (wl_kf_X2_takeBit_7 cI cJ cK xr r1 r2 r3 r4 r5 w0 w1 w2 w3 w4 w5 w6 w7 (nI rz) (nI rv) rw' rk' ro' rt' rb' wf7) ∧ True ∧ rw' = nI (min F (ru + tT rz ((rv - 1) - 7) (tP vg b rz) (oS O)))) := by
  refine ctV.of (cc := cX2_takeBit) (maxL := 4) (ret := none) (by decide) rfl (Nat.le_of_ble_eq_true rfl) ?_
  intro p e s m below meth c ls A hx hb hr hts hown hml hlocks hname hA hK hN hP hD hS hl
  have hl : lv_has ls 4 [(0, .ref xr), (1, .int 7), (2, .int (nI O)), (3, .int (nI ru))] := hl
  have hown : s.vm.findClass RX2 = some m.cls := hown
  have hi2 : ∀ w ∈ u_ws RX2 TX2 9, w ∈ wsX2_takeBit := by decide +kernel
  have fl20 := hts (.fieldLink RX2 20 "PlaneColumn$OrderSearch" "tried" "[I") (by decide +kernel)
  have fl24 := hts (.fieldLink RX2 24 "PlaneColumn$OrderSearch" "best" "[I") (by decide +kernel)
  have fl34 := hts (.fieldLink RX2 34 "PlaneColumn$OrderSearch" "variedCount" "I") (by decide +kernel)
  have fl37 := hts (.fieldLink RX2 37 "PlaneColumn$OrderSearch" "fewest" "I") (by decide +kernel)
  refine lv_iload_n hx hb dX2_takeBit_0 rfl (lv_at hl 2 rfl) ?_
  refine lv_if_ne (tgt := 29) hx hb dX2_takeBit_1 (by decide) (fun c1 => ?_) (fun c1 => ?_)
  ·
    have d1 : ((O : Nat) : Int) ≠ (0 : Int) := my_ne c1 (nI_toInt (by omega)) (by decide +kernel)
    refine lv_iload_n hx hb dX2_takeBit_29 rfl (lv_at hl 1 rfl) ?_
    refine lv_iconst (v := 1) hx hb dX2_takeBit_30 (by decide +kernel) ?_
    refine lv_iadd hx hb dX2_takeBit_31 ?_
    refine my_eqi (y := 8) (by decide +kernel) ?_
    refine lv_bipush (v := 8) hx hb dX2_takeBit_32 (by decide +kernel) ?_
    refine lv_icmp_ge (tgt := 70) hx hb dX2_takeBit_34 (by decide) (fun c34 => ?_) (fun c34 => ?_)
    ·
      exact my_retV hx hb hr hlocks hK hS (wl_kf_X2_takeBit_7 cI cJ cK xr r1 r2 r3 r4 r5 w0 w1 w2 w3 w4 w5 w6 w7 (nI rz) (nI rv) rw rk ro rt rb wf7) hP hD (⟨rw, rk, ro, rt, rb, rfl, (by first | assumption | omega | trivial | decide +kernel), (by first | exact tk_0 (by omega) (by omega) hru | (rw [show ((rv - 1) - 7) = rv - 8 from (by omega)]; exact hfw1) | (exfalso; have h9 := oS_pos hO (by omega); omega))⟩) dX2_takeBit_70
    ·
      exact absurd c34 (by decide +kernel)
  ·
    have d1 : ((O : Nat) : Int) = (0 : Int) := my_eq c1 (nI_toInt (by omega)) (by decide +kernel)
    refine lv_aload_n hx hb dX2_takeBit_4 rfl (lv_at hl 0 rfl) ?_
    refine lv_iload_n hx hb dX2_takeBit_5 rfl (lv_at hl 3 rfl) ?_
    refine va_put (ci := 2) (v := .int (nI ru)) (ty := (.int)) (C := RX2) (T := TX2) (N := 9) hx hb hts hi2 tyX2 tyX2_ok nmX2 hown hK hP hD hS 0 rfl rfl 7 (by decide) fl37 (fun _ h9 => h9) rfl (by decide +kernel) rfl rfl (Nat.le_of_ble_eq_true rfl) dX2_takeBit_6 (fun H locs hP hD hS => ?_)
    have hP : va_P D vwCl (wl_kf_X2_takeBit_7 cI cJ cK xr r1 r2 r3 r4 r5 w0 w1 w2 w3 w4 w5 w6 w7 (nI rz) (nI rv) (nI ru) rk ro rt rb wf7) H := hP
    have hD : va_D A (wl_kf_X2_takeBit_7 cI cJ cK xr r1 r2 r3 r4 r5 w0 w1 w2 w3 w4 w5 w6 w7 (nI rz) (nI rv) (nI ru) rk ro rt rb wf7) := hD
    refine lv_aload_n hx hb dX2_takeBit_9 rfl (lv_at hl 0 rfl) ?_
    refine va_get (ci := 2) (v := .ref r3) (C := RX2) (T := TX2) (N := 9) hx hb hts hi2 hown hK hP 0 rfl rfl 2 (by decide) fl20 (fun _ h9 => h9) rfl dX2_takeBit_10 ?_
    refine lv_iconst (v := 0) hx hb dX2_takeBit_13 (by decide +kernel) ?_
    refine lv_aload_n hx hb dX2_takeBit_14 rfl (lv_at hl 0 rfl) ?_
    refine va_get (ci := 2) (v := .ref r4) (C := RX2) (T := TX2) (N := 9) hx hb hts hi2 hown hK hP 0 rfl rfl 3 (by decide) fl24 (fun _ h9 => h9) rfl dX2_takeBit_15 ?_
    refine lv_iconst (v := 0) hx hb dX2_takeBit_18 (by decide +kernel) ?_
    refine lv_aload_n hx hb dX2_takeBit_19 rfl (lv_at hl 0 rfl) ?_
    refine va_get (ci := 2) (v := .int (nI rv)) (C := RX2) (T := TX2) (N := 9) hx hb hts hi2 hown hK hP 0 rfl rfl 6 (by decide) fl34 (fun _ h9 => h9) rfl dX2_takeBit_20 ?_
    refine va_copyi hx hb (hml.trans hl.1.symm) hown (hts (.methodLink RX2 75 arraycopyName) (by decide +kernel)) (hts (.native arraycopyName) (by decide +kernel)) (hts (.static arraycopyName) (by decide +kernel)) (hts (.initialized "java/lang/System") (by decide +kernel)) hK hP hD hS 3 4 0 0 rfl rfl rfl rfl rfl (by decide +kernel) (by decide +kernel) (nI_nneg (by omega)) (by rw [show (0 : Int32).toNatClampNeg = 0 from (by decide +kernel), show (nI rv : Int32).toNatClampNeg = rv from (nI_clamp (by omega))]; omega) (by rw [show (0 : Int32).toNatClampNeg = 0 from (by decide +kernel), show (nI rv : Int32).toNatClampNeg = rv from (nI_clamp (by omega))]; omega) (fun _ _ => rfl) (Nat.le_of_ble_eq_true rfl) (Nat.le_of_ble_eq_true rfl) dX2_takeBit_23 (fun H locs hP hD hS => ?_)
    obtain ⟨g_1, eg_1⟩ : ∃ g : Nat → Int32, g = va_cpy rt rb 0 0 rv := ⟨_, rfl⟩
    have eU : va_cpy rt rb (0 : Int32).toNatClampNeg (0 : Int32).toNatClampNeg (nI rv : Int32).toNatClampNeg = g_1 := by rw [eg_1, show (0 : Int32).toNatClampNeg = 0 from (by decide +kernel), show (nI rv : Int32).toNatClampNeg = rv from (nI_clamp (by omega))]
    rw [eU] at hP hD
    have hP : va_P D vwCl (wl_kf_X2_takeBit_7 cI cJ cK xr r1 r2 r3 r4 r5 w0 w1 w2 w3 w4 w5 w6 w7 (nI rz) (nI rv) (nI ru) rk ro rt g_1 wf7) H := hP
    have hD : va_D A (wl_kf_X2_takeBit_7 cI cJ cK xr r1 r2 r3 r4 r5 w0 w1 w2 w3 w4 w5 w6 w7 (nI rz) (nI rv) (nI ru) rk ro rt g_1 wf7) := hD
    refine lv_goto (tgt := 70) hx hb dX2_takeBit_26 (by decide) ?_
    exact my_retV hx hb hr hlocks hK hS (wl_kf_X2_takeBit_7 cI cJ cK xr r1 r2 r3 r4 r5 w0 w1 w2 w3 w4 w5 w6 w7 (nI rz) (nI rv) (nI ru) rk ro rt g_1 wf7) hP hD (⟨(nI ru), rk, ro, rt, g_1, rfl, (by first | assumption | omega | trivial | decide +kernel), (by first | exact tk_0 (by omega) (by omega) hru | (rw [show ((rv - 1) - 7) = rv - 8 from (by omega)]; exact hfw1) | (exfalso; have h9 := oS_pos hO (by omega); omega))⟩) dX2_takeBit_70
abbrev wl_kf_X2_tryBits_7 (cI cJ cK : ClassId) (xr : Nat) (r1 : Nat) (r2 : Nat) (r3 : Nat) (r4 : Nat) (r5 : Nat) (w0 : Nat) (w1 : Nat) (w2 : Nat) (w3 : Nat) (w4 : Nat) (w5 : Nat) (w6 : Nat) (w7 : Nat) (v0_ : Int32) (v1_ : Int32) (v2_ : Int32) (v3_ : Int32) (v4_ : Nat → Int64) (v5_ : Nat → Int32) (v6_ : Nat → Int32) (v7_ : Nat → Int64) : va_W := [(xr, .inr (2, [.ref r1, .ref r2, .ref r3, .ref r4, .ref r5, .int v0_, .int v1_, .int v2_, .int v3_])), (r1, .inl (cK, 8, .inr (.inr (.inr (.inr (fun j => ([w0, w1, w2, w3, w4, w5, w6, w7] : List Nat)[j]?)))))), (r2, .inl (cJ, 64, .inr (.inl v4_))), (r3, .inl (cI, 8, .inl v5_)), (r4, .inl (cI, 8, .inl v6_)), (w7, .inl (cJ, 64, .inr (.inl v7_)))]
set_option maxHeartbeats 4000000 in
set_option maxRecDepth 100000 in
theorem kf_X2_tryBits_7 (l : Launch) (D : va_G) (cI cJ cK : ClassId) (xr : Nat) (r1 : Nat) (r2 : Nat) (r3 : Nat) (r4 : Nat) (r5 : Nat) (w0 : Nat) (w1 : Nat) (w2 : Nat) (w3 : Nat) (w4 : Nat) (w5 : Nat) (w6 : Nat) (w7 : Nat) (rz : Nat) (rv : Nat) (rw : Int32) (rk : Int32) (ro : Nat → Int64) (rt : Nat → Int32) (rb : Nat → Int32) (wf7 : Nat → Int64) (O : Nat) (ra : Nat) (F : Nat) (vg : Nat → Nat) (hz_rz : rz ≤ 64) (hz_rv : rv ≤ 8) (hO : O < 256) (hra : ra ≤ 448) (hF : F ≤ 513) (hfw : rw = nI F) (hln : ∀ i, i < rz → wf7 i = lN (laN (vg i))) (hv8 : ∀ i, i < rz → vg i < 256) (hvr : ∀ c, c < 8 → oS O c = true → tV vg rz c) (hcd : tC (oS O) + 7 = rv) (hj0 : 7 < rv ∨ F = 0) : ctV l yX2_tryBits wsX2_tryBits ({ frames := 3, cells := 0, slots := 0, locals := 180 } : Room) D (tyIJ cI cJ cK) [.ref xr, .int 7, .int (nI O), .int (nI ra)] (wl_kf_X2_tryBits_7 cI cJ cK xr r1 r2 r3 r4 r5 w0 w1 w2 w3 w4 w5 w6 w7 (nI rz) (nI rv) rw rk ro rt rb wf7) (fun (u : va_W) => ∃ (rw' : Int32) (rk' : Int32) (ro' : Nat → Int64) (rt' : Nat → Int32) (rb' : Nat → Int32), u = (wl_kf_X2_tryBits_7 cI cJ cK xr r1 r2 r3 r4 r5 w0 w1 w2 w3 w4 w5 w6 w7 (nI rz) (nI rv) rw' rk' ro' rt' rb' wf7) ∧ True ∧ rw' = nI (min F (ra + tT rz (rv - 7) vg (oS O)))) := by
  refine ctV.of (cc := cX2_tryBits) (maxL := 9) (ret := none) (by decide) rfl (Nat.le_of_ble_eq_true rfl) ?_
  intro p e s m below meth c ls A hx hb hr hts hown hml hlocks hname hA hK hN hP hD hS hl
  have hl : lv_has ls 9 [(0, .ref xr), (1, .int 7), (2, .int (nI O)), (3, .int (nI ra))] := hl
  have hown : s.vm.findClass RX2 = some m.cls := hown
  have hi2 : ∀ w ∈ u_ws RX2 TX2 9, w ∈ wsX2_tryBits := by decide +kernel
  have fl11 := hts (.fieldLink RX2 11 "PlaneColumn$OrderSearch" "lines" "[[J") (by decide +kernel)
  have fl20 := hts (.fieldLink RX2 20 "PlaneColumn$OrderSearch" "tried" "[I") (by decide +kernel)
  have fl34 := hts (.fieldLink RX2 34 "PlaneColumn$OrderSearch" "variedCount" "I") (by decide +kernel)
  have fl37 := hts (.fieldLink RX2 37 "PlaneColumn$OrderSearch" "fewest" "I") (by decide +kernel)
  refine lv_iload_n hx hb dX2_tryBits_0 rfl (lv_at hl 1 rfl) ?_
  refine lv_aload_n hx hb dX2_tryBits_1 rfl (lv_at hl 0 rfl) ?_
  refine va_get (ci := 2) (v := .int (nI rv)) (C := RX2) (T := TX2) (N := 9) hx hb hts hi2 hown hK hP 0 rfl rfl 6 (by decide) fl34 (fun _ h9 => h9) rfl dX2_tryBits_2 ?_
  refine lv_icmp_ge (tgt := 14) hx hb dX2_tryBits_5 (by decide) (fun c5 => ?_) (fun c5 => ?_)
  ·
    have d5 : (7 : Int) ≥ ((rv : Nat) : Int) := my_ge c5 (by decide +kernel) (nI_toInt (by omega))
    exact my_retV hx hb hr hlocks hK hS (wl_kf_X2_tryBits_7 cI cJ cK xr r1 r2 r3 r4 r5 w0 w1 w2 w3 w4 w5 w6 w7 (nI rz) (nI rv) rw rk ro rt rb wf7) hP hD (⟨rw, rk, ro, rt, rb, rfl, (by first | assumption | omega | trivial | decide +kernel), (by first | exact tc_end hfw2 (by omega) (by omega) | exact tc_no hfw (by omega))⟩) dX2_tryBits_14
  ·
    have d5 : (7 : Int) < ((rv : Nat) : Int) := my_nge c5 (by decide +kernel) (nI_toInt (by omega))
    refine lv_iload_n hx hb dX2_tryBits_8 rfl (lv_at hl 1 rfl) ?_
    refine lv_bipush (v := 8) hx hb dX2_tryBits_9 (by decide +kernel) ?_
    refine lv_icmp_lt (tgt := 15) hx hb dX2_tryBits_11 (by decide) (fun c11 => ?_) (fun c11 => ?_)
    ·
      refine lv_aload_n hx hb dX2_tryBits_15 rfl (lv_at hl 0 rfl) ?_
      refine lv_aload_n hx hb dX2_tryBits_16 rfl (lv_at hl 0 rfl) ?_
      refine va_get (ci := 2) (v := .ref r1) (C := RX2) (T := TX2) (N := 9) hx hb hts hi2 hown hK hP 0 rfl rfl 0 (by decide) fl11 (fun _ h9 => h9) rfl dX2_tryBits_17 ?_
      refine lv_iload_n hx hb dX2_tryBits_20 rfl (lv_at hl 1 rfl) ?_
      refine my_aald hx hb hK hP 1 rfl (vp_in_nI (n := 7) (by omega) (by omega)) dX2_tryBits_21 ?_
      refine my_eqa (y := .ref w7) (by rw [show (7 : Int32).toNatClampNeg = 7 by decide +kernel]; rfl) ?_
      refine my_gpL (my_pV (As := [.ref w7]) (rest := []) (ci := 2) ⟨hx, hb, hml, hown, hts⟩ (cwV 1 hts gX2_tryBits_X2_changesOf rfl rfl rfl (by decide +kernel) ⟨Nat.le_of_ble_eq_true rfl, Nat.le_of_ble_eq_true rfl⟩) hN hK hP [0, 5] rfl 0 rfl rfl rfl rfl hl.1 rfl (Nat.le_of_ble_eq_true rfl) dX2_tryBits_22 ⟨Nat.le_of_ble_eq_true rfl, Nat.le_of_ble_eq_true rfl⟩  (kf_X2_changesOf l D cI cJ cK xr r1 r2 r3 r4 r5 w7 rz rv rw rk wf7 vg (by first | assumption | omega | decide +kernel) (by first | assumption | omega | decide +kernel) (by first | assumption | omega | decide +kernel) (by first | assumption | omega | decide +kernel))) (fun r hp => ?_)
      obtain ⟨c_1, rfl, hcc, ht_2⟩ := hp
      refine lv_lstore (lv' := [(4, .long (lN c_1)), (0, .ref xr), (1, .int 7), (2, .int (nI O)), (3, .int (nI ra))]) hx hb dX2_tryBits_25 hl (by decide) rfl (fun ls hl => ?_)
      refine lv_iconst (v := 2) hx hb dX2_tryBits_27 (by decide +kernel) ?_
      refine lv_aload_n hx hb dX2_tryBits_28 rfl (lv_at hl 1 rfl) ?_
      refine va_get (ci := 2) (v := .int (nI rv)) (C := RX2) (T := TX2) (N := 9) hx hb hts hi2 hown hK hP 0 rfl rfl 6 (by decide) fl34 (fun _ h9 => h9) rfl dX2_tryBits_29 ?_
      refine lv_iconst (v := 1) hx hb dX2_tryBits_32 (by decide +kernel) ?_
      refine lv_isub hx hb dX2_tryBits_33 ?_
      refine my_eqi (y := nI (rv - 1)) (my_subN (a := rv) (b := 1) (by omega)) ?_
      refine lv_iload_n hx hb dX2_tryBits_34 rfl (lv_at hl 2 rfl) ?_
      refine lv_isub hx hb dX2_tryBits_35 ?_
      refine my_eqi (y := nI ((rv - 1) - 7)) (my_subN (a := rv - 1) (b := 7) (by omega)) ?_
      refine lv_imul hx hb dX2_tryBits_36 ?_
      refine my_eqi (y := nI (2 * ((rv - 1) - 7))) (my_mulN _ _) ?_
      refine lv_istore (lv' := [(6, .int (nI (2 * ((rv - 1) - 7)))), (4, .long (lN c_1)), (0, .ref xr), (1, .int 7), (2, .int (nI O)), (3, .int (nI ra))]) hx hb dX2_tryBits_37 hl (by decide) rfl (fun ls hl => ?_)
      refine lv_bipush (v := 7) hx hb dX2_tryBits_39 (by decide +kernel) ?_
      refine lv_istore (lv' := [(7, .int 7), (6, .int (nI (2 * ((rv - 1) - 7)))), (4, .long (lN c_1)), (0, .ref xr), (1, .int 7), (2, .int (nI O)), (3, .int (nI ra))]) hx hb dX2_tryBits_41 hl (by decide) rfl (fun ls hl => ?_)
      have loop43 : ∀ (n9 : Nat) (x : Int32) (xr_fewest_43 : Int32) (xr_known_43 : Int32) (r2_43 : Nat → Int64) (r3_43 : Nat → Int32) (r4_43 : Nat → Int32), (x.toInt + 1).toNat < n9 → (-1 ≤ x.toInt) → (x.toInt ≤ 7) → (xr_fewest_43 = nI (min F (ra + tM (tF rz ((rv - 1) - 7) vg (oS O)) (oS O) (7 - x.toInt).toNat))) → ∀ (H : Heap) (locs : List Loc) (ls : Array Slot), va_P D vwCl (wl_kf_X2_tryBits_7 cI cJ cK xr r1 r2 r3 r4 r5 w0 w1 w2 w3 w4 w5 w6 w7 (nI rz) (nI rv) xr_fewest_43 xr_known_43 r2_43 r3_43 r4_43 wf7) H → va_D A (wl_kf_X2_tryBits_7 cI cJ cK xr r1 r2 r3 r4 r5 w0 w1 w2 w3 w4 w5 w6 w7 (nI rz) (nI rv) xr_fewest_43 xr_known_43 r2_43 r3_43 r4_43 wf7) → va_S A s.heap H locs → lv_has ls 9 [(7, .int x), (6, .int (nI (2 * ((rv - 1) - 7)))), (4, .long (lN c_1)), (0, .ref xr), (1, .int 7), (2, .int (nI O)), (3, .int (nI ra))] → W p l e ({ frames := 3, cells := 0, slots := 0, locals := 180 } : Room) s m [.ref xr, .int 7, .int (nI O), .int (nI ra)].toArray below meth c H locs 0 0 (MQ below (va_Qv (fun (u : va_W) => ∃ (rw' : Int32) (rk' : Int32) (ro' : Nat → Int64) (rt' : Nat → Int32) (rb' : Nat → Int32), u = (wl_kf_X2_tryBits_7 cI cJ cK xr r1 r2 r3 r4 r5 w0 w1 w2 w3 w4 w5 w6 w7 (nI rz) (nI rv) rw' rk' ro' rt' rb' wf7) ∧ True ∧ rw' = nI (min F (ra + tT rz (rv - 7) vg (oS O)))) (my_B D (tyIJ cI cJ cK) A) A) [.ref xr, .int 7, .int (nI O), .int (nI ra)].toArray s 0 0 A) (F0 m 43 ls []) := by
        intro n9
        induction n9 with
        | zero =>
          intro x xr_fewest_43 xr_known_43 r2_43 r3_43 r4_43 hn9
          exact absurd hn9 (Nat.not_lt_zero _)
        | succ n9 ih43 =>
          intro x xr_fewest_43 xr_known_43 r2_43 r3_43 r4_43 hn9 hx0 hx1 hfw2 H locs ls hP hD hS hl
          have hfi : xr_fewest_43.toInt = (((min F (ra + tM (tF rz ((rv - 1) - 7) vg (oS O)) (oS O) (7 - x.toInt).toNat)) : Nat) : Int) := by rw [hfw2]; exact nI_toInt (by omega)
          refine lv_iload hx hb dX2_tryBits_43 (lv_at hl 0 rfl) ?_
          refine lv_if_lt (tgt := 117) hx hb dX2_tryBits_45 (by decide) (fun c45 => ?_) (fun c45 => ?_)
          ·
            have d45 : x.toInt < (0 : Int) := my_lt c45 rfl (by decide +kernel)
            exact my_retV hx hb hr hlocks hK hS (wl_kf_X2_tryBits_7 cI cJ cK xr r1 r2 r3 r4 r5 w0 w1 w2 w3 w4 w5 w6 w7 (nI rz) (nI rv) xr_fewest_43 xr_known_43 r2_43 r3_43 r4_43 wf7) hP hD (⟨xr_fewest_43, xr_known_43, r2_43, r3_43, r4_43, rfl, (by first | assumption | omega | trivial | decide +kernel), (by first | exact tc_end hfw2 (by omega) (by omega) | exact tc_no hfw (by omega))⟩) dX2_tryBits_117
          ·
            have d45 : x.toInt ≥ (0 : Int) := my_nlt c45 rfl (by decide +kernel)
            obtain ⟨w_3, rfl, hw_3⟩ := my_natP (x := x) (by omega)
            refine lv_iload_n hx hb dX2_tryBits_48 rfl (lv_at hl 6 rfl) ?_
            refine lv_iconst (v := 1) hx hb dX2_tryBits_49 (by decide +kernel) ?_
            refine lv_iadd hx hb dX2_tryBits_50 ?_
            refine my_eqi (y := nI (ra + 1)) (my_addN ra 1) ?_
            refine lv_lload hx hb dX2_tryBits_51 (lv_at hl 2 rfl) ?_
            refine lv_bipush (v := 8) hx hb dX2_tryBits_53 (by decide +kernel) ?_
            refine lv_iload hx hb dX2_tryBits_55 (lv_at hl 0 rfl) ?_
            refine lv_imul hx hb dX2_tryBits_57 ?_
            refine my_eqi (y := nI (8 * w_3)) (my_mulN _ _) ?_
            have hclt : c_1 < 18446744073709551616 := by rw [hcc]; exact chS_lt vg hz_rz
            refine lv_lushr (v := lN (c_1 / 256 ^ w_3)) hx hb dX2_tryBits_58 (ush_8 hclt (by omega)) ?_
            refine lv_ldc2 (v := 255) hx hb hown (hts (.constantLong RX2 70 (255)) (by decide +kernel)) dX2_tryBits_59 ?_
            refine lv_land hx hb dX2_tryBits_62 ?_
            refine my_eql (y := lN (c_1 / 256 ^ w_3 % 256)) (and_255 (Nat.lt_of_le_of_lt (Nat.div_le_self _ _) hclt)) ?_
            refine lv_l2i (v := nI (c_1 / 256 ^ w_3 % 256)) hx hb dX2_tryBits_63 (l2i_N (by omega)) ?_
            refine lv_iadd hx hb dX2_tryBits_64 ?_
            refine my_eqi (y := nI (ra + 1 + c_1 / 256 ^ w_3 % 256)) (nI_add _ _) ?_
            refine lv_istore (lv' := [(8, .int (nI (ra + 1 + c_1 / 256 ^ w_3 % 256))), (7, .int (nI w_3)), (6, .int (nI (2 * ((rv - 1) - 7)))), (4, .long (lN c_1)), (0, .ref xr), (1, .int 7), (2, .int (nI O)), (3, .int (nI ra))]) hx hb dX2_tryBits_65 hl (by decide) rfl (fun ls hl => ?_)
            refine lv_iload_n hx hb dX2_tryBits_67 rfl (lv_at hl 6 rfl) ?_
            refine lv_iload hx hb dX2_tryBits_68 (lv_at hl 1 rfl) ?_
            refine lv_ishr hx hb dX2_tryBits_70 ?_
            refine my_eqi (y := nI (O / 2 ^ w_3)) (my_shrG (by omega) (by omega)) ?_
            refine lv_iconst (v := 1) hx hb dX2_tryBits_71 (by decide +kernel) ?_
            refine lv_iand hx hb dX2_tryBits_72 ?_
            refine my_eqi (y := nI ((O / 2 ^ w_3) % 2)) (my_maskN _ 1) ?_
            refine lv_if_eq (tgt := 111) hx hb dX2_tryBits_73 (by decide) (fun c73 => ?_) (fun c73 => ?_)
            ·
              have d73 : (((O / 2 ^ w_3) % 2 : Nat) : Int) = (0 : Int) := my_eq c73 (nI_toInt (by omega)) (by decide +kernel)
              obtain ⟨z_4, ez_4⟩ : ∃ y : Int32, y = nI w_3 + (-1) := ⟨_, rfl⟩
              try have tz_4 : z_4.toInt = ((w_3 : Nat) : Int) + (-1) := by rw [ez_4]; exact my_addI (nI_toInt (by omega)) (by decide +kernel) (by omega) (by omega)
              refine lv_iinc (v := z_4) (lv' := [(7, .int z_4), (8, .int (nI (ra + 1 + c_1 / 256 ^ w_3 % 256))), (6, .int (nI (2 * ((rv - 1) - 7)))), (4, .long (lN c_1)), (0, .ref xr), (1, .int 7), (2, .int (nI O)), (3, .int (nI ra))]) hx hb dX2_tryBits_111 hl (k := 1) rfl (by rw [ez_4]; rfl) (by decide) rfl (fun ls hl => ?_)
              refine lv_goto (tgt := 43) hx hb dX2_tryBits_114 (by decide) ?_
              exact ih43  z_4 xr_fewest_43 xr_known_43 r2_43 r3_43 r4_43 (by omega) (by first | assumption | omega | decide +kernel) (by first | assumption | omega | decide +kernel) (by first | exact tc_skip hfw2 (by omega) (by omega) (by omega) (os_f d73 (by omega)) | exact tc_bound hfw2 (by omega) (by omega) (by omega) (os_t d73 (by omega)) (by omega) | exact tc_done hfw1 (by omega) (by omega) (by omega) (os_t d73 (by omega)) (rm_G hO (by omega) hbt hru9 (by omega))) _ _ ls hP hD hS (lv_sub hl [0, 2, 3, 4, 5, 6, 7] rfl)
            ·
              have d73 : (((O / 2 ^ w_3) % 2 : Nat) : Int) ≠ (0 : Int) := my_ne c73 (nI_toInt (by omega)) (by decide +kernel)
              have hbt : Nat.testBit O w_3 = true := bN_t (by rw [← bn_tb]; omega)
              have hrz : 0 < rz := by obtain ⟨i9, hi9, -⟩ := hvr w_3 (by omega) hbt; omega
              have hru9 : ra + 1 + c_1 / 256 ^ w_3 % 256 = ra + rnF (tB vg w_3) rz := by rw [hcc, chS_at (by omega) hz_rz, tG_rn hrz]; omega
              have hrl := rnF_le (tB vg w_3) rz
              have hlb : rnF (tB vg w_3) rz + 2 * ((rv - 1) - 7) ≤ (tF rz ((rv - 1) - 7) vg (oS O)) (nI w_3).toInt.toNat := by rw [show (nI w_3).toInt.toNat = w_3 from (by omega)]; exact th_lb (by omega) hvr
              refine lv_iload hx hb dX2_tryBits_76 (lv_at hl 0 rfl) ?_
              refine lv_iload hx hb dX2_tryBits_78 (lv_at hl 2 rfl) ?_
              refine lv_iadd hx hb dX2_tryBits_80 ?_
              refine my_eqi (y := nI (ra + 1 + c_1 / 256 ^ w_3 % 256 + (2 * ((rv - 1) - 7)))) (nI_add _ _) ?_
              refine lv_aload_n hx hb dX2_tryBits_81 rfl (lv_at hl 4 rfl) ?_
              refine va_get (ci := 2) (v := .int xr_fewest_43) (C := RX2) (T := TX2) (N := 9) hx hb hts hi2 hown hK hP 0 rfl rfl 7 (by decide) fl37 (fun _ h9 => h9) rfl dX2_tryBits_82 ?_
              refine lv_icmp_ge (tgt := 111) hx hb dX2_tryBits_85 (by decide) (fun c85 => ?_) (fun c85 => ?_)
              ·
                have d85 : ((ra + 1 + c_1 / 256 ^ w_3 % 256 + (2 * ((rv - 1) - 7)) : Nat) : Int) ≥ xr_fewest_43.toInt := my_ge c85 (nI_toInt (by omega)) rfl
                obtain ⟨z_5, ez_5⟩ : ∃ y : Int32, y = nI w_3 + (-1) := ⟨_, rfl⟩
                try have tz_5 : z_5.toInt = ((w_3 : Nat) : Int) + (-1) := by rw [ez_5]; exact my_addI (nI_toInt (by omega)) (by decide +kernel) (by omega) (by omega)
                refine lv_iinc (v := z_5) (lv' := [(7, .int z_5), (8, .int (nI (ra + 1 + c_1 / 256 ^ w_3 % 256))), (6, .int (nI (2 * ((rv - 1) - 7)))), (4, .long (lN c_1)), (0, .ref xr), (1, .int 7), (2, .int (nI O)), (3, .int (nI ra))]) hx hb dX2_tryBits_111 hl (k := 1) rfl (by rw [ez_5]; rfl) (by decide) rfl (fun ls hl => ?_)
                refine lv_goto (tgt := 43) hx hb dX2_tryBits_114 (by decide) ?_
                exact ih43  z_5 xr_fewest_43 xr_known_43 r2_43 r3_43 r4_43 (by omega) (by first | assumption | omega | decide +kernel) (by first | assumption | omega | decide +kernel) (by first | exact tc_skip hfw2 (by omega) (by omega) (by omega) (os_f d73 (by omega)) | exact tc_bound hfw2 (by omega) (by omega) (by omega) (os_t d73 (by omega)) (by omega) | exact tc_done hfw1 (by omega) (by omega) (by omega) (os_t d73 (by omega)) (rm_G hO (by omega) hbt hru9 (by omega))) _ _ ls hP hD hS (lv_sub hl [0, 2, 3, 4, 5, 6, 7] rfl)
              ·
                have d85 : ((ra + 1 + c_1 / 256 ^ w_3 % 256 + (2 * ((rv - 1) - 7)) : Nat) : Int) < xr_fewest_43.toInt := my_nge c85 (nI_toInt (by omega)) rfl
                refine lv_aload_n hx hb dX2_tryBits_88 rfl (lv_at hl 4 rfl) ?_
                refine va_get (ci := 2) (v := .ref r3) (C := RX2) (T := TX2) (N := 9) hx hb hts hi2 hown hK hP 0 rfl rfl 2 (by decide) fl20 (fun _ h9 => h9) rfl dX2_tryBits_89 ?_
                refine lv_iload_n hx hb dX2_tryBits_92 rfl (lv_at hl 5 rfl) ?_
                refine lv_iload hx hb dX2_tryBits_93 (lv_at hl 1 rfl) ?_
                refine va_iast hx hb hK hP hD hS 3 0 rfl rfl (vp_in_nI (n := 7) (by omega) (by omega)) dX2_tryBits_95 (fun H locs hP hD hS => ?_)
                obtain ⟨g_6, eg_6⟩ : ∃ g : Nat → Int32, g = upd r3_43 7 (nI w_3) := ⟨_, rfl⟩
                have eU : upd r3_43 (7 : Int32).toNatClampNeg (nI w_3) = g_6 := by rw [eg_6, show (7 : Int32).toNatClampNeg = 7 from by decide +kernel]
                rw [eU] at hP hD
                have hP : va_P D vwCl (wl_kf_X2_tryBits_7 cI cJ cK xr r1 r2 r3 r4 r5 w0 w1 w2 w3 w4 w5 w6 w7 (nI rz) (nI rv) xr_fewest_43 xr_known_43 r2_43 g_6 r4_43 wf7) H := hP
                have hD : va_D A (wl_kf_X2_tryBits_7 cI cJ cK xr r1 r2 r3 r4 r5 w0 w1 w2 w3 w4 w5 w6 w7 (nI rz) (nI rv) xr_fewest_43 xr_known_43 r2_43 g_6 r4_43 wf7) := hD
                refine lv_aload_n hx hb dX2_tryBits_96 rfl (lv_at hl 4 rfl) ?_
                refine lv_iload_n hx hb dX2_tryBits_97 rfl (lv_at hl 5 rfl) ?_
                refine lv_iload_n hx hb dX2_tryBits_98 rfl (lv_at hl 6 rfl) ?_
                refine lv_iconst (v := 1) hx hb dX2_tryBits_99 (by decide +kernel) ?_
                refine lv_iload hx hb dX2_tryBits_100 (lv_at hl 1 rfl) ?_
                refine lv_ishl hx hb dX2_tryBits_102 ?_
                refine my_eqi (y := nI (2 ^ w_3)) (my_shl1 (by omega)) ?_
                refine lv_iconst (v := (-1)) hx hb dX2_tryBits_103 (by decide +kernel) ?_
                refine lv_ixor hx hb dX2_tryBits_104 ?_
                refine my_eqi (y := (nI (2 ^ w_3) ^^^ (-1))) (rfl) ?_
                refine lv_iand hx hb dX2_tryBits_105 ?_
                refine my_eqi (y := nI (O - 2 ^ w_3)) ((rm_b O hO _ (by omega) hbt).1) ?_
                refine lv_iload hx hb dX2_tryBits_106 (lv_at hl 0 rfl) ?_
                refine my_goVS (wc := (wl_kf_X2_takeBit_7 cI cJ cK xr r1 r2 r3 r4 r5 w0 w1 w2 w3 w4 w5 w6 w7 (nI rz) (nI rv) xr_fewest_43 xr_known_43 r2_43 g_6 r4_43 wf7)) hP hD hS hA [0, 1, 2, 3, 4, 5] rfl [some 0, some 1, some 2, some 3, some 4, some 5] (by decide +kernel) (my_cV (As := [.int 7, .int (nI (O - 2 ^ w_3)), .int (nI (ra + 1 + c_1 / 256 ^ w_3 % 256))]) (rest := []) (ci := 2) (wc := (wl_kf_X2_takeBit_7 cI cJ cK xr r1 r2 r3 r4 r5 w0 w1 w2 w3 w4 w5 w6 w7 (nI rz) (nI rv) xr_fewest_43 xr_known_43 r2_43 g_6 r4_43 wf7)) ⟨hx, hb, hml, hown, hts⟩ (cwV 3 hts gX2_tryBits_X2_takeBit rfl rfl rfl (by decide +kernel) ⟨Nat.le_of_ble_eq_true rfl, Nat.le_of_ble_eq_true rfl⟩) hN hK hP hD [0, 1, 2, 3, 4, 5] rfl (by decide) rfl 0 rfl rfl rfl rfl hl.1 rfl (Nat.le_of_ble_eq_true rfl) dX2_tryBits_108 ⟨Nat.le_of_ble_eq_true rfl, Nat.le_of_ble_eq_true rfl⟩  ((kf_X2_takeBit_7 l D cI cJ cK xr r1 r2 r3 r4 r5 w0 w1 w2 w3 w4 w5 w6 w7 rz rv xr_fewest_43 xr_known_43 r2_43 g_6 r4_43 wf7 (O - 2 ^ w_3) (ra + 1 + c_1 / 256 ^ w_3 % 256) w_3 (min F (ra + tM (tF rz ((rv - 1) - 7) vg (oS O)) (oS O) (7 - (nI w_3).toInt).toNat)) vg (by first | assumption | omega | decide +kernel) (by first | assumption | omega | decide +kernel) (by first | assumption | omega | decide +kernel) (us_at (by assumption)) ((rm_b O hO _ (by omega) hbt).2.1) (by have h9 := rm_c hO (by omega) hbt; omega) (rm_v hO (by omega) hbt hvr) (hfw2) (by first | assumption | omega | decide +kernel) (by first | assumption | omega | decide +kernel) (by first | assumption | omega | decide +kernel) (by first | assumption | omega | decide +kernel) (by first | assumption | omega | decide +kernel)) _)) (fun u H locs hp hPD hS => ?_)
                obtain ⟨rw_7, rk_8, ro_9, rt_10, rb_11, rfl, ht_12, hfw1⟩ := hp
                obtain ⟨hP, hD⟩ := hPD rfl
                have hP : va_P D vwCl (wl_kf_X2_tryBits_7 cI cJ cK xr r1 r2 r3 r4 r5 w0 w1 w2 w3 w4 w5 w6 w7 (nI rz) (nI rv) rw_7 rk_8 ro_9 rt_10 rb_11 wf7) H := hP
                have hD : va_D A (wl_kf_X2_tryBits_7 cI cJ cK xr r1 r2 r3 r4 r5 w0 w1 w2 w3 w4 w5 w6 w7 (nI rz) (nI rv) rw_7 rk_8 ro_9 rt_10 rb_11 wf7) := hD
                obtain ⟨z_13, ez_13⟩ : ∃ y : Int32, y = nI w_3 + (-1) := ⟨_, rfl⟩
                try have tz_13 : z_13.toInt = ((w_3 : Nat) : Int) + (-1) := by rw [ez_13]; exact my_addI (nI_toInt (by omega)) (by decide +kernel) (by omega) (by omega)
                refine lv_iinc (v := z_13) (lv' := [(7, .int z_13), (8, .int (nI (ra + 1 + c_1 / 256 ^ w_3 % 256))), (6, .int (nI (2 * ((rv - 1) - 7)))), (4, .long (lN c_1)), (0, .ref xr), (1, .int 7), (2, .int (nI O)), (3, .int (nI ra))]) hx hb dX2_tryBits_111 hl (k := 1) rfl (by rw [ez_13]; rfl) (by decide) rfl (fun ls hl => ?_)
                refine lv_goto (tgt := 43) hx hb dX2_tryBits_114 (by decide) ?_
                exact ih43  z_13 rw_7 rk_8 ro_9 rt_10 rb_11 (by omega) (by first | assumption | omega | decide +kernel) (by first | assumption | omega | decide +kernel) (by first | exact tc_skip hfw2 (by omega) (by omega) (by omega) (os_f d73 (by omega)) | exact tc_bound hfw2 (by omega) (by omega) (by omega) (os_t d73 (by omega)) (by omega) | exact tc_done hfw1 (by omega) (by omega) (by omega) (os_t d73 (by omega)) (rm_G hO (by omega) hbt hru9 (by omega))) _ _ ls hP hD hS (lv_sub hl [0, 2, 3, 4, 5, 6, 7] rfl)
      have ec_14 : (7 : Int32).toInt = 7 := by decide +kernel
      exact loop43 ((((7 : Int32).toInt + 1).toNat) + 1) (7 : Int32) rw rk ro rt rb (Nat.lt_succ_self _) (by first | assumption | omega | decide +kernel) (by first | assumption | omega | decide +kernel) (tc_0 hfw hF) _ _ ls hP hD hS (lv_sub hl [0, 1, 2, 3, 4, 5, 6] rfl)
    ·
      exact absurd c11 (by decide +kernel)
abbrev wl_kf_X2_takeBit_6 (cI cJ cK : ClassId) (xr : Nat) (r1 : Nat) (r2 : Nat) (r3 : Nat) (r4 : Nat) (r5 : Nat) (w0 : Nat) (w1 : Nat) (w2 : Nat) (w3 : Nat) (w4 : Nat) (w5 : Nat) (w6 : Nat) (w7 : Nat) (v0_ : Int32) (v1_ : Int32) (v2_ : Int32) (v3_ : Int32) (v4_ : Nat → Int64) (v5_ : Nat → Int32) (v6_ : Nat → Int32) (v7_ : Nat → Int64) (v8_ : Nat → Int64) : va_W := [(xr, .inr (2, [.ref r1, .ref r2, .ref r3, .ref r4, .ref r5, .int v0_, .int v1_, .int v2_, .int v3_])), (r1, .inl (cK, 8, .inr (.inr (.inr (.inr (fun j => ([w0, w1, w2, w3, w4, w5, w6, w7] : List Nat)[j]?)))))), (r2, .inl (cJ, 64, .inr (.inl v4_))), (r3, .inl (cI, 8, .inl v5_)), (r4, .inl (cI, 8, .inl v6_)), (w6, .inl (cJ, 64, .inr (.inl v7_))), (w7, .inl (cJ, 64, .inr (.inl v8_)))]
set_option maxHeartbeats 4000000 in
set_option maxRecDepth 100000 in
theorem kf_X2_takeBit_6 (l : Launch) (D : va_G) (cI cJ cK : ClassId) (xr : Nat) (r1 : Nat) (r2 : Nat) (r3 : Nat) (r4 : Nat) (r5 : Nat) (w0 : Nat) (w1 : Nat) (w2 : Nat) (w3 : Nat) (w4 : Nat) (w5 : Nat) (w6 : Nat) (w7 : Nat) (rz : Nat) (rv : Nat) (rw : Int32) (rk : Int32) (ro : Nat → Int64) (rt : Nat → Int32) (rb : Nat → Int32) (wf6 : Nat → Int64) (wf7 : Nat → Int64) (O : Nat) (ru : Nat) (b : Nat) (F : Nat) (vg : Nat → Nat) (hz_rz : rz ≤ 64) (hz_rv : rv ≤ 8) (hb8 : b < 8) (hrt : rt 6 = nI b) (hO : O < 256) (hcd : tC (oS O) + 7 = rv) (hvr : ∀ c, c < 8 → oS O c = true → tV vg rz c) (hfw : rw = nI F) (hF : F ≤ 513) (hru : ru < F) (hru6 : ru ≤ 448) (hln : ∀ i, i < rz → wf6 i = lN (laN (vg i))) (hv8 : ∀ i, i < rz → vg i < 256) : ctV l yX2_takeBit wsX2_takeBit ({ frames := 4, cells := 0, slots := 0, locals := 240 } : Room) D (tyIJ cI cJ cK) [.ref xr, .int 6, .int (nI O), .int (nI ru)] (wl_kf_X2_takeBit_6 cI cJ cK xr r1 r2 r3 r4 r5 w0 w1 w2 w3 w4 w5 w6 w7 (nI rz) (nI rv) rw rk ro rt rb wf6 wf7) (fun (u : va_W) => ∃ (rw' : Int32) (rk' : Int32) (ro' : Nat → Int64) (rt' : Nat → Int32) (rb' : Nat → Int32) (wf7' : Nat → Int64), u = (wl_kf_X2_takeBit_6 cI cJ cK xr r1 r2 r3 r4 r5 w0 w1 w2 w3 w4 w5 w6 w7 (nI rz) (nI rv) rw' rk' ro' rt' rb' wf6 wf7') ∧ True ∧ rw' = nI (min F (ru + tT rz ((rv - 1) - 6) (tP vg b rz) (oS O)))) := by
  refine ctV.of (cc := cX2_takeBit) (maxL := 4) (ret := none) (by decide) rfl (Nat.le_of_ble_eq_true rfl) ?_
  intro p e s m below meth c ls A hx hb hr hts hown hml hlocks hname hA hK hN hP hD hS hl
  have hl : lv_has ls 4 [(0, .ref xr), (1, .int 6), (2, .int (nI O)), (3, .int (nI ru))] := hl
  have hown : s.vm.findClass RX2 = some m.cls := hown
  have hi2 : ∀ w ∈ u_ws RX2 TX2 9, w ∈ wsX2_takeBit := by decide +kernel
  have fl11 := hts (.fieldLink RX2 11 "PlaneColumn$OrderSearch" "lines" "[[J") (by decide +kernel)
  have fl20 := hts (.fieldLink RX2 20 "PlaneColumn$OrderSearch" "tried" "[I") (by decide +kernel)
  have fl24 := hts (.fieldLink RX2 24 "PlaneColumn$OrderSearch" "best" "[I") (by decide +kernel)
  have fl34 := hts (.fieldLink RX2 34 "PlaneColumn$OrderSearch" "variedCount" "I") (by decide +kernel)
  have fl37 := hts (.fieldLink RX2 37 "PlaneColumn$OrderSearch" "fewest" "I") (by decide +kernel)
  refine lv_iload_n hx hb dX2_takeBit_0 rfl (lv_at hl 2 rfl) ?_
  refine lv_if_ne (tgt := 29) hx hb dX2_takeBit_1 (by decide) (fun c1 => ?_) (fun c1 => ?_)
  ·
    have d1 : ((O : Nat) : Int) ≠ (0 : Int) := my_ne c1 (nI_toInt (by omega)) (by decide +kernel)
    refine lv_iload_n hx hb dX2_takeBit_29 rfl (lv_at hl 1 rfl) ?_
    refine lv_iconst (v := 1) hx hb dX2_takeBit_30 (by decide +kernel) ?_
    refine lv_iadd hx hb dX2_takeBit_31 ?_
    refine my_eqi (y := 7) (by decide +kernel) ?_
    refine lv_bipush (v := 8) hx hb dX2_takeBit_32 (by decide +kernel) ?_
    refine lv_icmp_ge (tgt := 70) hx hb dX2_takeBit_34 (by decide) (fun c34 => ?_) (fun c34 => ?_)
    ·
      exact absurd c34 (by decide +kernel)
    ·
      refine lv_aload_n hx hb dX2_takeBit_37 rfl (lv_at hl 0 rfl) ?_
      refine lv_aload_n hx hb dX2_takeBit_38 rfl (lv_at hl 0 rfl) ?_
      refine va_get (ci := 2) (v := .ref r1) (C := RX2) (T := TX2) (N := 9) hx hb hts hi2 hown hK hP 0 rfl rfl 0 (by decide) fl11 (fun _ h9 => h9) rfl dX2_takeBit_39 ?_
      refine lv_iload_n hx hb dX2_takeBit_42 rfl (lv_at hl 1 rfl) ?_
      refine my_aald hx hb hK hP 1 rfl (vp_in_nI (n := 6) (by omega) (by omega)) dX2_takeBit_43 ?_
      refine my_eqa (y := .ref w6) (by rw [show (6 : Int32).toNatClampNeg = 6 by decide +kernel]; rfl) ?_
      refine lv_aload_n hx hb dX2_takeBit_44 rfl (lv_at hl 0 rfl) ?_
      refine va_get (ci := 2) (v := .ref r1) (C := RX2) (T := TX2) (N := 9) hx hb hts hi2 hown hK hP 0 rfl rfl 0 (by decide) fl11 (fun _ h9 => h9) rfl dX2_takeBit_45 ?_
      refine lv_iload_n hx hb dX2_takeBit_48 rfl (lv_at hl 1 rfl) ?_
      refine lv_iconst (v := 1) hx hb dX2_takeBit_49 (by decide +kernel) ?_
      refine lv_iadd hx hb dX2_takeBit_50 ?_
      refine my_eqi (y := 7) (by decide +kernel) ?_
      refine my_aald hx hb hK hP 1 rfl (vp_in_nI (n := 7) (by omega) (by omega)) dX2_takeBit_51 ?_
      refine my_eqa (y := .ref w7) (by rw [show (7 : Int32).toNatClampNeg = 7 by decide +kernel]; rfl) ?_
      refine lv_aload_n hx hb dX2_takeBit_52 rfl (lv_at hl 0 rfl) ?_
      refine va_get (ci := 2) (v := .ref r3) (C := RX2) (T := TX2) (N := 9) hx hb hts hi2 hown hK hP 0 rfl rfl 2 (by decide) fl20 (fun _ h9 => h9) rfl dX2_takeBit_53 ?_
      refine lv_iload_n hx hb dX2_takeBit_56 rfl (lv_at hl 1 rfl) ?_
      refine va_iald hx hb hK hP 3 0 rfl rfl (vp_in_nI (n := 6) (by omega) (by omega)) dX2_takeBit_57 ?_
      refine my_eqi (y := nI b) ((congrArg rt (show (6 : Int32).toNatClampNeg = 6 by decide +kernel)).trans hrt) ?_
      refine my_goVS (wc := (wl_kf_X2_part cI cJ cK xr r1 r2 r3 r4 r5 w6 w7 (nI rz) (nI rv) rw rk ro wf6 wf7)) hP hD hS hA [0, 2, 5, 6] rfl [some 0, none, some 1, none, none, some 2, some 3] (by decide +kernel) (my_cV (As := [.ref w6, .ref w7, .int (nI b)]) (rest := []) (ci := 2) (wc := (wl_kf_X2_part cI cJ cK xr r1 r2 r3 r4 r5 w6 w7 (nI rz) (nI rv) rw rk ro wf6 wf7)) ⟨hx, hb, hml, hown, hts⟩ (cwV 3 hts gX2_takeBit_X2_part rfl rfl rfl (by decide +kernel) ⟨Nat.le_of_ble_eq_true rfl, Nat.le_of_ble_eq_true rfl⟩) hN hK hP hD [0, 2, 5, 6] rfl (by decide) rfl 0 rfl rfl rfl rfl hl.1 rfl (Nat.le_of_ble_eq_true rfl) dX2_takeBit_58 ⟨Nat.le_of_ble_eq_true rfl, Nat.le_of_ble_eq_true rfl⟩  ((kf_X2_part l D cI cJ cK xr r1 r2 r3 r4 r5 w6 w7 rz rv rw rk ro wf6 wf7 b vg (by first | assumption | omega | decide +kernel) (by first | assumption | omega | decide +kernel) (by first | assumption | omega | decide +kernel) (by first | assumption | omega | decide +kernel)) _)) (fun u H locs hp hPD hS => ?_)
      obtain ⟨ro_1, wfb_2, rfl, hpl, ht_3⟩ := hp
      obtain ⟨hP, hD⟩ := hPD rfl
      have hP : va_P D vwCl (wl_kf_X2_takeBit_6 cI cJ cK xr r1 r2 r3 r4 r5 w0 w1 w2 w3 w4 w5 w6 w7 (nI rz) (nI rv) rw rk ro_1 rt rb wf6 wfb_2) H := hP
      have hD : va_D A (wl_kf_X2_takeBit_6 cI cJ cK xr r1 r2 r3 r4 r5 w0 w1 w2 w3 w4 w5 w6 w7 (nI rz) (nI rv) rw rk ro_1 rt rb wf6 wfb_2) := hD
      refine lv_aload_n hx hb dX2_takeBit_61 rfl (lv_at hl 0 rfl) ?_
      refine lv_iload_n hx hb dX2_takeBit_62 rfl (lv_at hl 1 rfl) ?_
      refine lv_iconst (v := 1) hx hb dX2_takeBit_63 (by decide +kernel) ?_
      refine lv_iadd hx hb dX2_takeBit_64 ?_
      refine my_eqi (y := 7) (by decide +kernel) ?_
      refine lv_iload_n hx hb dX2_takeBit_65 rfl (lv_at hl 2 rfl) ?_
      refine lv_iload_n hx hb dX2_takeBit_66 rfl (lv_at hl 3 rfl) ?_
      refine my_goVS (wc := (wl_kf_X2_tryBits_7 cI cJ cK xr r1 r2 r3 r4 r5 w0 w1 w2 w3 w4 w5 w6 w7 (nI rz) (nI rv) rw rk ro_1 rt rb wfb_2)) hP hD hS hA [0, 1, 2, 3, 4, 6] rfl [some 0, some 1, some 2, some 3, some 4, none, some 5] (by decide +kernel) (my_cV (As := [.int 7, .int (nI O), .int (nI ru)]) (rest := []) (ci := 2) (wc := (wl_kf_X2_tryBits_7 cI cJ cK xr r1 r2 r3 r4 r5 w0 w1 w2 w3 w4 w5 w6 w7 (nI rz) (nI rv) rw rk ro_1 rt rb wfb_2)) ⟨hx, hb, hml, hown, hts⟩ (cwV 3 hts gX2_takeBit_X2_tryBits rfl rfl rfl (by decide +kernel) ⟨Nat.le_of_ble_eq_true rfl, Nat.le_of_ble_eq_true rfl⟩) hN hK hP hD [0, 1, 2, 3, 4, 6] rfl (by decide) rfl 0 rfl rfl rfl rfl hl.1 rfl (Nat.le_of_ble_eq_true rfl) dX2_takeBit_67 ⟨Nat.le_of_ble_eq_true rfl, Nat.le_of_ble_eq_true rfl⟩  ((kf_X2_tryBits_7 l D cI cJ cK xr r1 r2 r3 r4 r5 w0 w1 w2 w3 w4 w5 w6 w7 rz rv rw rk ro_1 rt rb wfb_2 O ru F (tP vg b rz) (by first | assumption | omega | decide +kernel) (by first | assumption | omega | decide +kernel) (by first | assumption | omega | decide +kernel) (by first | assumption | omega | decide +kernel) (by first | assumption | omega | decide +kernel) (by first | assumption | omega | decide +kernel) (hpl) (tP_8 hv8) (fun c hc hs => tV_p.mpr (hvr c hc hs)) (by first | assumption | omega | decide +kernel) (Or.inl (by have h9 := oS_pos hO (by omega); omega))) _)) (fun u H locs hp hPD hS => ?_)
      obtain ⟨rw_4, rk_5, ro_6, rt_7, rb_8, rfl, ht_9, hfw1⟩ := hp
      obtain ⟨hP, hD⟩ := hPD rfl
      have hP : va_P D vwCl (wl_kf_X2_takeBit_6 cI cJ cK xr r1 r2 r3 r4 r5 w0 w1 w2 w3 w4 w5 w6 w7 (nI rz) (nI rv) rw_4 rk_5 ro_6 rt_7 rb_8 wf6 wfb_2) H := hP
      have hD : va_D A (wl_kf_X2_takeBit_6 cI cJ cK xr r1 r2 r3 r4 r5 w0 w1 w2 w3 w4 w5 w6 w7 (nI rz) (nI rv) rw_4 rk_5 ro_6 rt_7 rb_8 wf6 wfb_2) := hD
      exact my_retV hx hb hr hlocks hK hS (wl_kf_X2_takeBit_6 cI cJ cK xr r1 r2 r3 r4 r5 w0 w1 w2 w3 w4 w5 w6 w7 (nI rz) (nI rv) rw_4 rk_5 ro_6 rt_7 rb_8 wf6 wfb_2) hP hD (⟨rw_4, rk_5, ro_6, rt_7, rb_8, wfb_2, rfl, (by first | assumption | omega | trivial | decide +kernel), (by first | exact tk_0 (by omega) (by omega) hru | (rw [show ((rv - 1) - 6) = rv - 7 from (by omega)]; exact hfw1) | (exfalso; have h9 := oS_pos hO (by omega); omega))⟩) dX2_takeBit_70
  ·
    have d1 : ((O : Nat) : Int) = (0 : Int) := my_eq c1 (nI_toInt (by omega)) (by decide +kernel)
    refine lv_aload_n hx hb dX2_takeBit_4 rfl (lv_at hl 0 rfl) ?_
    refine lv_iload_n hx hb dX2_takeBit_5 rfl (lv_at hl 3 rfl) ?_
    refine va_put (ci := 2) (v := .int (nI ru)) (ty := (.int)) (C := RX2) (T := TX2) (N := 9) hx hb hts hi2 tyX2 tyX2_ok nmX2 hown hK hP hD hS 0 rfl rfl 7 (by decide) fl37 (fun _ h9 => h9) rfl (by decide +kernel) rfl rfl (Nat.le_of_ble_eq_true rfl) dX2_takeBit_6 (fun H locs hP hD hS => ?_)
    have hP : va_P D vwCl (wl_kf_X2_takeBit_6 cI cJ cK xr r1 r2 r3 r4 r5 w0 w1 w2 w3 w4 w5 w6 w7 (nI rz) (nI rv) (nI ru) rk ro rt rb wf6 wf7) H := hP
    have hD : va_D A (wl_kf_X2_takeBit_6 cI cJ cK xr r1 r2 r3 r4 r5 w0 w1 w2 w3 w4 w5 w6 w7 (nI rz) (nI rv) (nI ru) rk ro rt rb wf6 wf7) := hD
    refine lv_aload_n hx hb dX2_takeBit_9 rfl (lv_at hl 0 rfl) ?_
    refine va_get (ci := 2) (v := .ref r3) (C := RX2) (T := TX2) (N := 9) hx hb hts hi2 hown hK hP 0 rfl rfl 2 (by decide) fl20 (fun _ h9 => h9) rfl dX2_takeBit_10 ?_
    refine lv_iconst (v := 0) hx hb dX2_takeBit_13 (by decide +kernel) ?_
    refine lv_aload_n hx hb dX2_takeBit_14 rfl (lv_at hl 0 rfl) ?_
    refine va_get (ci := 2) (v := .ref r4) (C := RX2) (T := TX2) (N := 9) hx hb hts hi2 hown hK hP 0 rfl rfl 3 (by decide) fl24 (fun _ h9 => h9) rfl dX2_takeBit_15 ?_
    refine lv_iconst (v := 0) hx hb dX2_takeBit_18 (by decide +kernel) ?_
    refine lv_aload_n hx hb dX2_takeBit_19 rfl (lv_at hl 0 rfl) ?_
    refine va_get (ci := 2) (v := .int (nI rv)) (C := RX2) (T := TX2) (N := 9) hx hb hts hi2 hown hK hP 0 rfl rfl 6 (by decide) fl34 (fun _ h9 => h9) rfl dX2_takeBit_20 ?_
    refine va_copyi hx hb (hml.trans hl.1.symm) hown (hts (.methodLink RX2 75 arraycopyName) (by decide +kernel)) (hts (.native arraycopyName) (by decide +kernel)) (hts (.static arraycopyName) (by decide +kernel)) (hts (.initialized "java/lang/System") (by decide +kernel)) hK hP hD hS 3 4 0 0 rfl rfl rfl rfl rfl (by decide +kernel) (by decide +kernel) (nI_nneg (by omega)) (by rw [show (0 : Int32).toNatClampNeg = 0 from (by decide +kernel), show (nI rv : Int32).toNatClampNeg = rv from (nI_clamp (by omega))]; omega) (by rw [show (0 : Int32).toNatClampNeg = 0 from (by decide +kernel), show (nI rv : Int32).toNatClampNeg = rv from (nI_clamp (by omega))]; omega) (fun _ _ => rfl) (Nat.le_of_ble_eq_true rfl) (Nat.le_of_ble_eq_true rfl) dX2_takeBit_23 (fun H locs hP hD hS => ?_)
    obtain ⟨g_10, eg_10⟩ : ∃ g : Nat → Int32, g = va_cpy rt rb 0 0 rv := ⟨_, rfl⟩
    have eU : va_cpy rt rb (0 : Int32).toNatClampNeg (0 : Int32).toNatClampNeg (nI rv : Int32).toNatClampNeg = g_10 := by rw [eg_10, show (0 : Int32).toNatClampNeg = 0 from (by decide +kernel), show (nI rv : Int32).toNatClampNeg = rv from (nI_clamp (by omega))]
    rw [eU] at hP hD
    have hP : va_P D vwCl (wl_kf_X2_takeBit_6 cI cJ cK xr r1 r2 r3 r4 r5 w0 w1 w2 w3 w4 w5 w6 w7 (nI rz) (nI rv) (nI ru) rk ro rt g_10 wf6 wf7) H := hP
    have hD : va_D A (wl_kf_X2_takeBit_6 cI cJ cK xr r1 r2 r3 r4 r5 w0 w1 w2 w3 w4 w5 w6 w7 (nI rz) (nI rv) (nI ru) rk ro rt g_10 wf6 wf7) := hD
    refine lv_goto (tgt := 70) hx hb dX2_takeBit_26 (by decide) ?_
    exact my_retV hx hb hr hlocks hK hS (wl_kf_X2_takeBit_6 cI cJ cK xr r1 r2 r3 r4 r5 w0 w1 w2 w3 w4 w5 w6 w7 (nI rz) (nI rv) (nI ru) rk ro rt g_10 wf6 wf7) hP hD (⟨(nI ru), rk, ro, rt, g_10, wf7, rfl, (by first | assumption | omega | trivial | decide +kernel), (by first | exact tk_0 (by omega) (by omega) hru | (rw [show ((rv - 1) - 6) = rv - 7 from (by omega)]; exact hfw1) | (exfalso; have h9 := oS_pos hO (by omega); omega))⟩) dX2_takeBit_70
abbrev wl_kf_X2_tryBits_6 (cI cJ cK : ClassId) (xr : Nat) (r1 : Nat) (r2 : Nat) (r3 : Nat) (r4 : Nat) (r5 : Nat) (w0 : Nat) (w1 : Nat) (w2 : Nat) (w3 : Nat) (w4 : Nat) (w5 : Nat) (w6 : Nat) (w7 : Nat) (v0_ : Int32) (v1_ : Int32) (v2_ : Int32) (v3_ : Int32) (v4_ : Nat → Int64) (v5_ : Nat → Int32) (v6_ : Nat → Int32) (v7_ : Nat → Int64) (v8_ : Nat → Int64) : va_W := [(xr, .inr (2, [.ref r1, .ref r2, .ref r3, .ref r4, .ref r5, .int v0_, .int v1_, .int v2_, .int v3_])), (r1, .inl (cK, 8, .inr (.inr (.inr (.inr (fun j => ([w0, w1, w2, w3, w4, w5, w6, w7] : List Nat)[j]?)))))), (r2, .inl (cJ, 64, .inr (.inl v4_))), (r3, .inl (cI, 8, .inl v5_)), (r4, .inl (cI, 8, .inl v6_)), (w6, .inl (cJ, 64, .inr (.inl v7_))), (w7, .inl (cJ, 64, .inr (.inl v8_)))]
set_option maxHeartbeats 4000000 in
set_option maxRecDepth 100000 in
theorem kf_X2_tryBits_6 (l : Launch) (D : va_G) (cI cJ cK : ClassId) (xr : Nat) (r1 : Nat) (r2 : Nat) (r3 : Nat) (r4 : Nat) (r5 : Nat) (w0 : Nat) (w1 : Nat) (w2 : Nat) (w3 : Nat) (w4 : Nat) (w5 : Nat) (w6 : Nat) (w7 : Nat) (rz : Nat) (rv : Nat) (rw : Int32) (rk : Int32) (ro : Nat → Int64) (rt : Nat → Int32) (rb : Nat → Int32) (wf6 : Nat → Int64) (wf7 : Nat → Int64) (O : Nat) (ra : Nat) (F : Nat) (vg : Nat → Nat) (hz_rz : rz ≤ 64) (hz_rv : rv ≤ 8) (hO : O < 256) (hra : ra ≤ 384) (hF : F ≤ 513) (hfw : rw = nI F) (hln : ∀ i, i < rz → wf6 i = lN (laN (vg i))) (hv8 : ∀ i, i < rz → vg i < 256) (hvr : ∀ c, c < 8 → oS O c = true → tV vg rz c) (hcd : tC (oS O) + 6 = rv) (hj0 : 6 < rv ∨ F = 0) : ctV l yX2_tryBits wsX2_tryBits ({ frames := 5, cells := 0, slots := 0, locals := 300 } : Room) D (tyIJ cI cJ cK) [.ref xr, .int 6, .int (nI O), .int (nI ra)] (wl_kf_X2_tryBits_6 cI cJ cK xr r1 r2 r3 r4 r5 w0 w1 w2 w3 w4 w5 w6 w7 (nI rz) (nI rv) rw rk ro rt rb wf6 wf7) (fun (u : va_W) => ∃ (rw' : Int32) (rk' : Int32) (ro' : Nat → Int64) (rt' : Nat → Int32) (rb' : Nat → Int32) (wf7' : Nat → Int64), u = (wl_kf_X2_tryBits_6 cI cJ cK xr r1 r2 r3 r4 r5 w0 w1 w2 w3 w4 w5 w6 w7 (nI rz) (nI rv) rw' rk' ro' rt' rb' wf6 wf7') ∧ True ∧ rw' = nI (min F (ra + tT rz (rv - 6) vg (oS O)))) := by
  refine ctV.of (cc := cX2_tryBits) (maxL := 9) (ret := none) (by decide) rfl (Nat.le_of_ble_eq_true rfl) ?_
  intro p e s m below meth c ls A hx hb hr hts hown hml hlocks hname hA hK hN hP hD hS hl
  have hl : lv_has ls 9 [(0, .ref xr), (1, .int 6), (2, .int (nI O)), (3, .int (nI ra))] := hl
  have hown : s.vm.findClass RX2 = some m.cls := hown
  have hi2 : ∀ w ∈ u_ws RX2 TX2 9, w ∈ wsX2_tryBits := by decide +kernel
  have fl11 := hts (.fieldLink RX2 11 "PlaneColumn$OrderSearch" "lines" "[[J") (by decide +kernel)
  have fl20 := hts (.fieldLink RX2 20 "PlaneColumn$OrderSearch" "tried" "[I") (by decide +kernel)
  have fl34 := hts (.fieldLink RX2 34 "PlaneColumn$OrderSearch" "variedCount" "I") (by decide +kernel)
  have fl37 := hts (.fieldLink RX2 37 "PlaneColumn$OrderSearch" "fewest" "I") (by decide +kernel)
  refine lv_iload_n hx hb dX2_tryBits_0 rfl (lv_at hl 1 rfl) ?_
  refine lv_aload_n hx hb dX2_tryBits_1 rfl (lv_at hl 0 rfl) ?_
  refine va_get (ci := 2) (v := .int (nI rv)) (C := RX2) (T := TX2) (N := 9) hx hb hts hi2 hown hK hP 0 rfl rfl 6 (by decide) fl34 (fun _ h9 => h9) rfl dX2_tryBits_2 ?_
  refine lv_icmp_ge (tgt := 14) hx hb dX2_tryBits_5 (by decide) (fun c5 => ?_) (fun c5 => ?_)
  ·
    have d5 : (6 : Int) ≥ ((rv : Nat) : Int) := my_ge c5 (by decide +kernel) (nI_toInt (by omega))
    exact my_retV hx hb hr hlocks hK hS (wl_kf_X2_tryBits_6 cI cJ cK xr r1 r2 r3 r4 r5 w0 w1 w2 w3 w4 w5 w6 w7 (nI rz) (nI rv) rw rk ro rt rb wf6 wf7) hP hD (⟨rw, rk, ro, rt, rb, wf7, rfl, (by first | assumption | omega | trivial | decide +kernel), (by first | exact tc_end hfw2 (by omega) (by omega) | exact tc_no hfw (by omega))⟩) dX2_tryBits_14
  ·
    have d5 : (6 : Int) < ((rv : Nat) : Int) := my_nge c5 (by decide +kernel) (nI_toInt (by omega))
    refine lv_iload_n hx hb dX2_tryBits_8 rfl (lv_at hl 1 rfl) ?_
    refine lv_bipush (v := 8) hx hb dX2_tryBits_9 (by decide +kernel) ?_
    refine lv_icmp_lt (tgt := 15) hx hb dX2_tryBits_11 (by decide) (fun c11 => ?_) (fun c11 => ?_)
    ·
      refine lv_aload_n hx hb dX2_tryBits_15 rfl (lv_at hl 0 rfl) ?_
      refine lv_aload_n hx hb dX2_tryBits_16 rfl (lv_at hl 0 rfl) ?_
      refine va_get (ci := 2) (v := .ref r1) (C := RX2) (T := TX2) (N := 9) hx hb hts hi2 hown hK hP 0 rfl rfl 0 (by decide) fl11 (fun _ h9 => h9) rfl dX2_tryBits_17 ?_
      refine lv_iload_n hx hb dX2_tryBits_20 rfl (lv_at hl 1 rfl) ?_
      refine my_aald hx hb hK hP 1 rfl (vp_in_nI (n := 6) (by omega) (by omega)) dX2_tryBits_21 ?_
      refine my_eqa (y := .ref w6) (by rw [show (6 : Int32).toNatClampNeg = 6 by decide +kernel]; rfl) ?_
      refine my_gpL (my_pV (As := [.ref w6]) (rest := []) (ci := 2) ⟨hx, hb, hml, hown, hts⟩ (cwV 1 hts gX2_tryBits_X2_changesOf rfl rfl rfl (by decide +kernel) ⟨Nat.le_of_ble_eq_true rfl, Nat.le_of_ble_eq_true rfl⟩) hN hK hP [0, 5] rfl 0 rfl rfl rfl rfl hl.1 rfl (Nat.le_of_ble_eq_true rfl) dX2_tryBits_22 ⟨Nat.le_of_ble_eq_true rfl, Nat.le_of_ble_eq_true rfl⟩  (kf_X2_changesOf l D cI cJ cK xr r1 r2 r3 r4 r5 w6 rz rv rw rk wf6 vg (by first | assumption | omega | decide +kernel) (by first | assumption | omega | decide +kernel) (by first | assumption | omega | decide +kernel) (by first | assumption | omega | decide +kernel))) (fun r hp => ?_)
      obtain ⟨c_1, rfl, hcc, ht_2⟩ := hp
      refine lv_lstore (lv' := [(4, .long (lN c_1)), (0, .ref xr), (1, .int 6), (2, .int (nI O)), (3, .int (nI ra))]) hx hb dX2_tryBits_25 hl (by decide) rfl (fun ls hl => ?_)
      refine lv_iconst (v := 2) hx hb dX2_tryBits_27 (by decide +kernel) ?_
      refine lv_aload_n hx hb dX2_tryBits_28 rfl (lv_at hl 1 rfl) ?_
      refine va_get (ci := 2) (v := .int (nI rv)) (C := RX2) (T := TX2) (N := 9) hx hb hts hi2 hown hK hP 0 rfl rfl 6 (by decide) fl34 (fun _ h9 => h9) rfl dX2_tryBits_29 ?_
      refine lv_iconst (v := 1) hx hb dX2_tryBits_32 (by decide +kernel) ?_
      refine lv_isub hx hb dX2_tryBits_33 ?_
      refine my_eqi (y := nI (rv - 1)) (my_subN (a := rv) (b := 1) (by omega)) ?_
      refine lv_iload_n hx hb dX2_tryBits_34 rfl (lv_at hl 2 rfl) ?_
      refine lv_isub hx hb dX2_tryBits_35 ?_
      refine my_eqi (y := nI ((rv - 1) - 6)) (my_subN (a := rv - 1) (b := 6) (by omega)) ?_
      refine lv_imul hx hb dX2_tryBits_36 ?_
      refine my_eqi (y := nI (2 * ((rv - 1) - 6))) (my_mulN _ _) ?_
      refine lv_istore (lv' := [(6, .int (nI (2 * ((rv - 1) - 6)))), (4, .long (lN c_1)), (0, .ref xr), (1, .int 6), (2, .int (nI O)), (3, .int (nI ra))]) hx hb dX2_tryBits_37 hl (by decide) rfl (fun ls hl => ?_)
      refine lv_bipush (v := 7) hx hb dX2_tryBits_39 (by decide +kernel) ?_
      refine lv_istore (lv' := [(7, .int 7), (6, .int (nI (2 * ((rv - 1) - 6)))), (4, .long (lN c_1)), (0, .ref xr), (1, .int 6), (2, .int (nI O)), (3, .int (nI ra))]) hx hb dX2_tryBits_41 hl (by decide) rfl (fun ls hl => ?_)
      have loop43 : ∀ (n9 : Nat) (x : Int32) (xr_fewest_43 : Int32) (xr_known_43 : Int32) (r2_43 : Nat → Int64) (r3_43 : Nat → Int32) (r4_43 : Nat → Int32) (w7_43 : Nat → Int64), (x.toInt + 1).toNat < n9 → (-1 ≤ x.toInt) → (x.toInt ≤ 7) → (xr_fewest_43 = nI (min F (ra + tM (tF rz ((rv - 1) - 6) vg (oS O)) (oS O) (7 - x.toInt).toNat))) → ∀ (H : Heap) (locs : List Loc) (ls : Array Slot), va_P D vwCl (wl_kf_X2_tryBits_6 cI cJ cK xr r1 r2 r3 r4 r5 w0 w1 w2 w3 w4 w5 w6 w7 (nI rz) (nI rv) xr_fewest_43 xr_known_43 r2_43 r3_43 r4_43 wf6 w7_43) H → va_D A (wl_kf_X2_tryBits_6 cI cJ cK xr r1 r2 r3 r4 r5 w0 w1 w2 w3 w4 w5 w6 w7 (nI rz) (nI rv) xr_fewest_43 xr_known_43 r2_43 r3_43 r4_43 wf6 w7_43) → va_S A s.heap H locs → lv_has ls 9 [(7, .int x), (6, .int (nI (2 * ((rv - 1) - 6)))), (4, .long (lN c_1)), (0, .ref xr), (1, .int 6), (2, .int (nI O)), (3, .int (nI ra))] → W p l e ({ frames := 5, cells := 0, slots := 0, locals := 300 } : Room) s m [.ref xr, .int 6, .int (nI O), .int (nI ra)].toArray below meth c H locs 0 0 (MQ below (va_Qv (fun (u : va_W) => ∃ (rw' : Int32) (rk' : Int32) (ro' : Nat → Int64) (rt' : Nat → Int32) (rb' : Nat → Int32) (wf7' : Nat → Int64), u = (wl_kf_X2_tryBits_6 cI cJ cK xr r1 r2 r3 r4 r5 w0 w1 w2 w3 w4 w5 w6 w7 (nI rz) (nI rv) rw' rk' ro' rt' rb' wf6 wf7') ∧ True ∧ rw' = nI (min F (ra + tT rz (rv - 6) vg (oS O)))) (my_B D (tyIJ cI cJ cK) A) A) [.ref xr, .int 6, .int (nI O), .int (nI ra)].toArray s 0 0 A) (F0 m 43 ls []) := by
        intro n9
        induction n9 with
        | zero =>
          intro x xr_fewest_43 xr_known_43 r2_43 r3_43 r4_43 w7_43 hn9
          exact absurd hn9 (Nat.not_lt_zero _)
        | succ n9 ih43 =>
          intro x xr_fewest_43 xr_known_43 r2_43 r3_43 r4_43 w7_43 hn9 hx0 hx1 hfw2 H locs ls hP hD hS hl
          have hfi : xr_fewest_43.toInt = (((min F (ra + tM (tF rz ((rv - 1) - 6) vg (oS O)) (oS O) (7 - x.toInt).toNat)) : Nat) : Int) := by rw [hfw2]; exact nI_toInt (by omega)
          refine lv_iload hx hb dX2_tryBits_43 (lv_at hl 0 rfl) ?_
          refine lv_if_lt (tgt := 117) hx hb dX2_tryBits_45 (by decide) (fun c45 => ?_) (fun c45 => ?_)
          ·
            have d45 : x.toInt < (0 : Int) := my_lt c45 rfl (by decide +kernel)
            exact my_retV hx hb hr hlocks hK hS (wl_kf_X2_tryBits_6 cI cJ cK xr r1 r2 r3 r4 r5 w0 w1 w2 w3 w4 w5 w6 w7 (nI rz) (nI rv) xr_fewest_43 xr_known_43 r2_43 r3_43 r4_43 wf6 w7_43) hP hD (⟨xr_fewest_43, xr_known_43, r2_43, r3_43, r4_43, w7_43, rfl, (by first | assumption | omega | trivial | decide +kernel), (by first | exact tc_end hfw2 (by omega) (by omega) | exact tc_no hfw (by omega))⟩) dX2_tryBits_117
          ·
            have d45 : x.toInt ≥ (0 : Int) := my_nlt c45 rfl (by decide +kernel)
            obtain ⟨w_3, rfl, hw_3⟩ := my_natP (x := x) (by omega)
            refine lv_iload_n hx hb dX2_tryBits_48 rfl (lv_at hl 6 rfl) ?_
            refine lv_iconst (v := 1) hx hb dX2_tryBits_49 (by decide +kernel) ?_
            refine lv_iadd hx hb dX2_tryBits_50 ?_
            refine my_eqi (y := nI (ra + 1)) (my_addN ra 1) ?_
            refine lv_lload hx hb dX2_tryBits_51 (lv_at hl 2 rfl) ?_
            refine lv_bipush (v := 8) hx hb dX2_tryBits_53 (by decide +kernel) ?_
            refine lv_iload hx hb dX2_tryBits_55 (lv_at hl 0 rfl) ?_
            refine lv_imul hx hb dX2_tryBits_57 ?_
            refine my_eqi (y := nI (8 * w_3)) (my_mulN _ _) ?_
            have hclt : c_1 < 18446744073709551616 := by rw [hcc]; exact chS_lt vg hz_rz
            refine lv_lushr (v := lN (c_1 / 256 ^ w_3)) hx hb dX2_tryBits_58 (ush_8 hclt (by omega)) ?_
            refine lv_ldc2 (v := 255) hx hb hown (hts (.constantLong RX2 70 (255)) (by decide +kernel)) dX2_tryBits_59 ?_
            refine lv_land hx hb dX2_tryBits_62 ?_
            refine my_eql (y := lN (c_1 / 256 ^ w_3 % 256)) (and_255 (Nat.lt_of_le_of_lt (Nat.div_le_self _ _) hclt)) ?_
            refine lv_l2i (v := nI (c_1 / 256 ^ w_3 % 256)) hx hb dX2_tryBits_63 (l2i_N (by omega)) ?_
            refine lv_iadd hx hb dX2_tryBits_64 ?_
            refine my_eqi (y := nI (ra + 1 + c_1 / 256 ^ w_3 % 256)) (nI_add _ _) ?_
            refine lv_istore (lv' := [(8, .int (nI (ra + 1 + c_1 / 256 ^ w_3 % 256))), (7, .int (nI w_3)), (6, .int (nI (2 * ((rv - 1) - 6)))), (4, .long (lN c_1)), (0, .ref xr), (1, .int 6), (2, .int (nI O)), (3, .int (nI ra))]) hx hb dX2_tryBits_65 hl (by decide) rfl (fun ls hl => ?_)
            refine lv_iload_n hx hb dX2_tryBits_67 rfl (lv_at hl 6 rfl) ?_
            refine lv_iload hx hb dX2_tryBits_68 (lv_at hl 1 rfl) ?_
            refine lv_ishr hx hb dX2_tryBits_70 ?_
            refine my_eqi (y := nI (O / 2 ^ w_3)) (my_shrG (by omega) (by omega)) ?_
            refine lv_iconst (v := 1) hx hb dX2_tryBits_71 (by decide +kernel) ?_
            refine lv_iand hx hb dX2_tryBits_72 ?_
            refine my_eqi (y := nI ((O / 2 ^ w_3) % 2)) (my_maskN _ 1) ?_
            refine lv_if_eq (tgt := 111) hx hb dX2_tryBits_73 (by decide) (fun c73 => ?_) (fun c73 => ?_)
            ·
              have d73 : (((O / 2 ^ w_3) % 2 : Nat) : Int) = (0 : Int) := my_eq c73 (nI_toInt (by omega)) (by decide +kernel)
              obtain ⟨z_4, ez_4⟩ : ∃ y : Int32, y = nI w_3 + (-1) := ⟨_, rfl⟩
              try have tz_4 : z_4.toInt = ((w_3 : Nat) : Int) + (-1) := by rw [ez_4]; exact my_addI (nI_toInt (by omega)) (by decide +kernel) (by omega) (by omega)
              refine lv_iinc (v := z_4) (lv' := [(7, .int z_4), (8, .int (nI (ra + 1 + c_1 / 256 ^ w_3 % 256))), (6, .int (nI (2 * ((rv - 1) - 6)))), (4, .long (lN c_1)), (0, .ref xr), (1, .int 6), (2, .int (nI O)), (3, .int (nI ra))]) hx hb dX2_tryBits_111 hl (k := 1) rfl (by rw [ez_4]; rfl) (by decide) rfl (fun ls hl => ?_)
              refine lv_goto (tgt := 43) hx hb dX2_tryBits_114 (by decide) ?_
              exact ih43  z_4 xr_fewest_43 xr_known_43 r2_43 r3_43 r4_43 w7_43 (by omega) (by first | assumption | omega | decide +kernel) (by first | assumption | omega | decide +kernel) (by first | exact tc_skip hfw2 (by omega) (by omega) (by omega) (os_f d73 (by omega)) | exact tc_bound hfw2 (by omega) (by omega) (by omega) (os_t d73 (by omega)) (by omega) | exact tc_done hfw1 (by omega) (by omega) (by omega) (os_t d73 (by omega)) (rm_G hO (by omega) hbt hru9 (by omega))) _ _ ls hP hD hS (lv_sub hl [0, 2, 3, 4, 5, 6, 7] rfl)
            ·
              have d73 : (((O / 2 ^ w_3) % 2 : Nat) : Int) ≠ (0 : Int) := my_ne c73 (nI_toInt (by omega)) (by decide +kernel)
              have hbt : Nat.testBit O w_3 = true := bN_t (by rw [← bn_tb]; omega)
              have hrz : 0 < rz := by obtain ⟨i9, hi9, -⟩ := hvr w_3 (by omega) hbt; omega
              have hru9 : ra + 1 + c_1 / 256 ^ w_3 % 256 = ra + rnF (tB vg w_3) rz := by rw [hcc, chS_at (by omega) hz_rz, tG_rn hrz]; omega
              have hrl := rnF_le (tB vg w_3) rz
              have hlb : rnF (tB vg w_3) rz + 2 * ((rv - 1) - 6) ≤ (tF rz ((rv - 1) - 6) vg (oS O)) (nI w_3).toInt.toNat := by rw [show (nI w_3).toInt.toNat = w_3 from (by omega)]; exact th_lb (by omega) hvr
              refine lv_iload hx hb dX2_tryBits_76 (lv_at hl 0 rfl) ?_
              refine lv_iload hx hb dX2_tryBits_78 (lv_at hl 2 rfl) ?_
              refine lv_iadd hx hb dX2_tryBits_80 ?_
              refine my_eqi (y := nI (ra + 1 + c_1 / 256 ^ w_3 % 256 + (2 * ((rv - 1) - 6)))) (nI_add _ _) ?_
              refine lv_aload_n hx hb dX2_tryBits_81 rfl (lv_at hl 4 rfl) ?_
              refine va_get (ci := 2) (v := .int xr_fewest_43) (C := RX2) (T := TX2) (N := 9) hx hb hts hi2 hown hK hP 0 rfl rfl 7 (by decide) fl37 (fun _ h9 => h9) rfl dX2_tryBits_82 ?_
              refine lv_icmp_ge (tgt := 111) hx hb dX2_tryBits_85 (by decide) (fun c85 => ?_) (fun c85 => ?_)
              ·
                have d85 : ((ra + 1 + c_1 / 256 ^ w_3 % 256 + (2 * ((rv - 1) - 6)) : Nat) : Int) ≥ xr_fewest_43.toInt := my_ge c85 (nI_toInt (by omega)) rfl
                obtain ⟨z_5, ez_5⟩ : ∃ y : Int32, y = nI w_3 + (-1) := ⟨_, rfl⟩
                try have tz_5 : z_5.toInt = ((w_3 : Nat) : Int) + (-1) := by rw [ez_5]; exact my_addI (nI_toInt (by omega)) (by decide +kernel) (by omega) (by omega)
                refine lv_iinc (v := z_5) (lv' := [(7, .int z_5), (8, .int (nI (ra + 1 + c_1 / 256 ^ w_3 % 256))), (6, .int (nI (2 * ((rv - 1) - 6)))), (4, .long (lN c_1)), (0, .ref xr), (1, .int 6), (2, .int (nI O)), (3, .int (nI ra))]) hx hb dX2_tryBits_111 hl (k := 1) rfl (by rw [ez_5]; rfl) (by decide) rfl (fun ls hl => ?_)
                refine lv_goto (tgt := 43) hx hb dX2_tryBits_114 (by decide) ?_
                exact ih43  z_5 xr_fewest_43 xr_known_43 r2_43 r3_43 r4_43 w7_43 (by omega) (by first | assumption | omega | decide +kernel) (by first | assumption | omega | decide +kernel) (by first | exact tc_skip hfw2 (by omega) (by omega) (by omega) (os_f d73 (by omega)) | exact tc_bound hfw2 (by omega) (by omega) (by omega) (os_t d73 (by omega)) (by omega) | exact tc_done hfw1 (by omega) (by omega) (by omega) (os_t d73 (by omega)) (rm_G hO (by omega) hbt hru9 (by omega))) _ _ ls hP hD hS (lv_sub hl [0, 2, 3, 4, 5, 6, 7] rfl)
              ·
                have d85 : ((ra + 1 + c_1 / 256 ^ w_3 % 256 + (2 * ((rv - 1) - 6)) : Nat) : Int) < xr_fewest_43.toInt := my_nge c85 (nI_toInt (by omega)) rfl
                refine lv_aload_n hx hb dX2_tryBits_88 rfl (lv_at hl 4 rfl) ?_
                refine va_get (ci := 2) (v := .ref r3) (C := RX2) (T := TX2) (N := 9) hx hb hts hi2 hown hK hP 0 rfl rfl 2 (by decide) fl20 (fun _ h9 => h9) rfl dX2_tryBits_89 ?_
                refine lv_iload_n hx hb dX2_tryBits_92 rfl (lv_at hl 5 rfl) ?_
                refine lv_iload hx hb dX2_tryBits_93 (lv_at hl 1 rfl) ?_
                refine va_iast hx hb hK hP hD hS 3 0 rfl rfl (vp_in_nI (n := 6) (by omega) (by omega)) dX2_tryBits_95 (fun H locs hP hD hS => ?_)
                obtain ⟨g_6, eg_6⟩ : ∃ g : Nat → Int32, g = upd r3_43 6 (nI w_3) := ⟨_, rfl⟩
                have eU : upd r3_43 (6 : Int32).toNatClampNeg (nI w_3) = g_6 := by rw [eg_6, show (6 : Int32).toNatClampNeg = 6 from by decide +kernel]
                rw [eU] at hP hD
                have hP : va_P D vwCl (wl_kf_X2_tryBits_6 cI cJ cK xr r1 r2 r3 r4 r5 w0 w1 w2 w3 w4 w5 w6 w7 (nI rz) (nI rv) xr_fewest_43 xr_known_43 r2_43 g_6 r4_43 wf6 w7_43) H := hP
                have hD : va_D A (wl_kf_X2_tryBits_6 cI cJ cK xr r1 r2 r3 r4 r5 w0 w1 w2 w3 w4 w5 w6 w7 (nI rz) (nI rv) xr_fewest_43 xr_known_43 r2_43 g_6 r4_43 wf6 w7_43) := hD
                refine lv_aload_n hx hb dX2_tryBits_96 rfl (lv_at hl 4 rfl) ?_
                refine lv_iload_n hx hb dX2_tryBits_97 rfl (lv_at hl 5 rfl) ?_
                refine lv_iload_n hx hb dX2_tryBits_98 rfl (lv_at hl 6 rfl) ?_
                refine lv_iconst (v := 1) hx hb dX2_tryBits_99 (by decide +kernel) ?_
                refine lv_iload hx hb dX2_tryBits_100 (lv_at hl 1 rfl) ?_
                refine lv_ishl hx hb dX2_tryBits_102 ?_
                refine my_eqi (y := nI (2 ^ w_3)) (my_shl1 (by omega)) ?_
                refine lv_iconst (v := (-1)) hx hb dX2_tryBits_103 (by decide +kernel) ?_
                refine lv_ixor hx hb dX2_tryBits_104 ?_
                refine my_eqi (y := (nI (2 ^ w_3) ^^^ (-1))) (rfl) ?_
                refine lv_iand hx hb dX2_tryBits_105 ?_
                refine my_eqi (y := nI (O - 2 ^ w_3)) ((rm_b O hO _ (by omega) hbt).1) ?_
                refine lv_iload hx hb dX2_tryBits_106 (lv_at hl 0 rfl) ?_
                refine my_goVS (wc := (wl_kf_X2_takeBit_6 cI cJ cK xr r1 r2 r3 r4 r5 w0 w1 w2 w3 w4 w5 w6 w7 (nI rz) (nI rv) xr_fewest_43 xr_known_43 r2_43 g_6 r4_43 wf6 w7_43)) hP hD hS hA [0, 1, 2, 3, 4, 5, 6] rfl [some 0, some 1, some 2, some 3, some 4, some 5, some 6] (by decide +kernel) (my_cV (As := [.int 6, .int (nI (O - 2 ^ w_3)), .int (nI (ra + 1 + c_1 / 256 ^ w_3 % 256))]) (rest := []) (ci := 2) (wc := (wl_kf_X2_takeBit_6 cI cJ cK xr r1 r2 r3 r4 r5 w0 w1 w2 w3 w4 w5 w6 w7 (nI rz) (nI rv) xr_fewest_43 xr_known_43 r2_43 g_6 r4_43 wf6 w7_43)) ⟨hx, hb, hml, hown, hts⟩ (cwV 3 hts gX2_tryBits_X2_takeBit rfl rfl rfl (by decide +kernel) ⟨Nat.le_of_ble_eq_true rfl, Nat.le_of_ble_eq_true rfl⟩) hN hK hP hD [0, 1, 2, 3, 4, 5, 6] rfl (by decide) rfl 0 rfl rfl rfl rfl hl.1 rfl (Nat.le_of_ble_eq_true rfl) dX2_tryBits_108 ⟨Nat.le_of_ble_eq_true rfl, Nat.le_of_ble_eq_true rfl⟩  ((kf_X2_takeBit_6 l D cI cJ cK xr r1 r2 r3 r4 r5 w0 w1 w2 w3 w4 w5 w6 w7 rz rv xr_fewest_43 xr_known_43 r2_43 g_6 r4_43 wf6 w7_43 (O - 2 ^ w_3) (ra + 1 + c_1 / 256 ^ w_3 % 256) w_3 (min F (ra + tM (tF rz ((rv - 1) - 6) vg (oS O)) (oS O) (7 - (nI w_3).toInt).toNat)) vg (by first | assumption | omega | decide +kernel) (by first | assumption | omega | decide +kernel) (by first | assumption | omega | decide +kernel) (us_at (by assumption)) ((rm_b O hO _ (by omega) hbt).2.1) (by have h9 := rm_c hO (by omega) hbt; omega) (rm_v hO (by omega) hbt hvr) (hfw2) (by first | assumption | omega | decide +kernel) (by first | assumption | omega | decide +kernel) (by first | assumption | omega | decide +kernel) (by first | assumption | omega | decide +kernel) (by first | assumption | omega | decide +kernel)) _)) (fun u H locs hp hPD hS => ?_)
                obtain ⟨rw_7, rk_8, ro_9, rt_10, rb_11, wf7_12, rfl, ht_13, hfw1⟩ := hp
                obtain ⟨hP, hD⟩ := hPD rfl
                have hP : va_P D vwCl (wl_kf_X2_tryBits_6 cI cJ cK xr r1 r2 r3 r4 r5 w0 w1 w2 w3 w4 w5 w6 w7 (nI rz) (nI rv) rw_7 rk_8 ro_9 rt_10 rb_11 wf6 wf7_12) H := hP
                have hD : va_D A (wl_kf_X2_tryBits_6 cI cJ cK xr r1 r2 r3 r4 r5 w0 w1 w2 w3 w4 w5 w6 w7 (nI rz) (nI rv) rw_7 rk_8 ro_9 rt_10 rb_11 wf6 wf7_12) := hD
                obtain ⟨z_14, ez_14⟩ : ∃ y : Int32, y = nI w_3 + (-1) := ⟨_, rfl⟩
                try have tz_14 : z_14.toInt = ((w_3 : Nat) : Int) + (-1) := by rw [ez_14]; exact my_addI (nI_toInt (by omega)) (by decide +kernel) (by omega) (by omega)
                refine lv_iinc (v := z_14) (lv' := [(7, .int z_14), (8, .int (nI (ra + 1 + c_1 / 256 ^ w_3 % 256))), (6, .int (nI (2 * ((rv - 1) - 6)))), (4, .long (lN c_1)), (0, .ref xr), (1, .int 6), (2, .int (nI O)), (3, .int (nI ra))]) hx hb dX2_tryBits_111 hl (k := 1) rfl (by rw [ez_14]; rfl) (by decide) rfl (fun ls hl => ?_)
                refine lv_goto (tgt := 43) hx hb dX2_tryBits_114 (by decide) ?_
                exact ih43  z_14 rw_7 rk_8 ro_9 rt_10 rb_11 wf7_12 (by omega) (by first | assumption | omega | decide +kernel) (by first | assumption | omega | decide +kernel) (by first | exact tc_skip hfw2 (by omega) (by omega) (by omega) (os_f d73 (by omega)) | exact tc_bound hfw2 (by omega) (by omega) (by omega) (os_t d73 (by omega)) (by omega) | exact tc_done hfw1 (by omega) (by omega) (by omega) (os_t d73 (by omega)) (rm_G hO (by omega) hbt hru9 (by omega))) _ _ ls hP hD hS (lv_sub hl [0, 2, 3, 4, 5, 6, 7] rfl)
      have ec_15 : (7 : Int32).toInt = 7 := by decide +kernel
      exact loop43 ((((7 : Int32).toInt + 1).toNat) + 1) (7 : Int32) rw rk ro rt rb wf7 (Nat.lt_succ_self _) (by first | assumption | omega | decide +kernel) (by first | assumption | omega | decide +kernel) (tc_0 hfw hF) _ _ ls hP hD hS (lv_sub hl [0, 1, 2, 3, 4, 5, 6] rfl)
    ·
      exact absurd c11 (by decide +kernel)
abbrev wl_kf_X2_takeBit_5 (cI cJ cK : ClassId) (xr : Nat) (r1 : Nat) (r2 : Nat) (r3 : Nat) (r4 : Nat) (r5 : Nat) (w0 : Nat) (w1 : Nat) (w2 : Nat) (w3 : Nat) (w4 : Nat) (w5 : Nat) (w6 : Nat) (w7 : Nat) (v0_ : Int32) (v1_ : Int32) (v2_ : Int32) (v3_ : Int32) (v4_ : Nat → Int64) (v5_ : Nat → Int32) (v6_ : Nat → Int32) (v7_ : Nat → Int64) (v8_ : Nat → Int64) (v9_ : Nat → Int64) : va_W := [(xr, .inr (2, [.ref r1, .ref r2, .ref r3, .ref r4, .ref r5, .int v0_, .int v1_, .int v2_, .int v3_])), (r1, .inl (cK, 8, .inr (.inr (.inr (.inr (fun j => ([w0, w1, w2, w3, w4, w5, w6, w7] : List Nat)[j]?)))))), (r2, .inl (cJ, 64, .inr (.inl v4_))), (r3, .inl (cI, 8, .inl v5_)), (r4, .inl (cI, 8, .inl v6_)), (w5, .inl (cJ, 64, .inr (.inl v7_))), (w6, .inl (cJ, 64, .inr (.inl v8_))), (w7, .inl (cJ, 64, .inr (.inl v9_)))]
set_option maxHeartbeats 4000000 in
set_option maxRecDepth 100000 in
theorem kf_X2_takeBit_5 (l : Launch) (D : va_G) (cI cJ cK : ClassId) (xr : Nat) (r1 : Nat) (r2 : Nat) (r3 : Nat) (r4 : Nat) (r5 : Nat) (w0 : Nat) (w1 : Nat) (w2 : Nat) (w3 : Nat) (w4 : Nat) (w5 : Nat) (w6 : Nat) (w7 : Nat) (rz : Nat) (rv : Nat) (rw : Int32) (rk : Int32) (ro : Nat → Int64) (rt : Nat → Int32) (rb : Nat → Int32) (wf5 : Nat → Int64) (wf6 : Nat → Int64) (wf7 : Nat → Int64) (O : Nat) (ru : Nat) (b : Nat) (F : Nat) (vg : Nat → Nat) (hz_rz : rz ≤ 64) (hz_rv : rv ≤ 8) (hb8 : b < 8) (hrt : rt 5 = nI b) (hO : O < 256) (hcd : tC (oS O) + 6 = rv) (hvr : ∀ c, c < 8 → oS O c = true → tV vg rz c) (hfw : rw = nI F) (hF : F ≤ 513) (hru : ru < F) (hru6 : ru ≤ 384) (hln : ∀ i, i < rz → wf5 i = lN (laN (vg i))) (hv8 : ∀ i, i < rz → vg i < 256) : ctV l yX2_takeBit wsX2_takeBit ({ frames := 6, cells := 0, slots := 0, locals := 360 } : Room) D (tyIJ cI cJ cK) [.ref xr, .int 5, .int (nI O), .int (nI ru)] (wl_kf_X2_takeBit_5 cI cJ cK xr r1 r2 r3 r4 r5 w0 w1 w2 w3 w4 w5 w6 w7 (nI rz) (nI rv) rw rk ro rt rb wf5 wf6 wf7) (fun (u : va_W) => ∃ (rw' : Int32) (rk' : Int32) (ro' : Nat → Int64) (rt' : Nat → Int32) (rb' : Nat → Int32) (wf6' : Nat → Int64) (wf7' : Nat → Int64), u = (wl_kf_X2_takeBit_5 cI cJ cK xr r1 r2 r3 r4 r5 w0 w1 w2 w3 w4 w5 w6 w7 (nI rz) (nI rv) rw' rk' ro' rt' rb' wf5 wf6' wf7') ∧ True ∧ rw' = nI (min F (ru + tT rz ((rv - 1) - 5) (tP vg b rz) (oS O)))) := by
  refine ctV.of (cc := cX2_takeBit) (maxL := 4) (ret := none) (by decide) rfl (Nat.le_of_ble_eq_true rfl) ?_
  intro p e s m below meth c ls A hx hb hr hts hown hml hlocks hname hA hK hN hP hD hS hl
  have hl : lv_has ls 4 [(0, .ref xr), (1, .int 5), (2, .int (nI O)), (3, .int (nI ru))] := hl
  have hown : s.vm.findClass RX2 = some m.cls := hown
  have hi2 : ∀ w ∈ u_ws RX2 TX2 9, w ∈ wsX2_takeBit := by decide +kernel
  have fl11 := hts (.fieldLink RX2 11 "PlaneColumn$OrderSearch" "lines" "[[J") (by decide +kernel)
  have fl20 := hts (.fieldLink RX2 20 "PlaneColumn$OrderSearch" "tried" "[I") (by decide +kernel)
  have fl24 := hts (.fieldLink RX2 24 "PlaneColumn$OrderSearch" "best" "[I") (by decide +kernel)
  have fl34 := hts (.fieldLink RX2 34 "PlaneColumn$OrderSearch" "variedCount" "I") (by decide +kernel)
  have fl37 := hts (.fieldLink RX2 37 "PlaneColumn$OrderSearch" "fewest" "I") (by decide +kernel)
  refine lv_iload_n hx hb dX2_takeBit_0 rfl (lv_at hl 2 rfl) ?_
  refine lv_if_ne (tgt := 29) hx hb dX2_takeBit_1 (by decide) (fun c1 => ?_) (fun c1 => ?_)
  ·
    have d1 : ((O : Nat) : Int) ≠ (0 : Int) := my_ne c1 (nI_toInt (by omega)) (by decide +kernel)
    refine lv_iload_n hx hb dX2_takeBit_29 rfl (lv_at hl 1 rfl) ?_
    refine lv_iconst (v := 1) hx hb dX2_takeBit_30 (by decide +kernel) ?_
    refine lv_iadd hx hb dX2_takeBit_31 ?_
    refine my_eqi (y := 6) (by decide +kernel) ?_
    refine lv_bipush (v := 8) hx hb dX2_takeBit_32 (by decide +kernel) ?_
    refine lv_icmp_ge (tgt := 70) hx hb dX2_takeBit_34 (by decide) (fun c34 => ?_) (fun c34 => ?_)
    ·
      exact absurd c34 (by decide +kernel)
    ·
      refine lv_aload_n hx hb dX2_takeBit_37 rfl (lv_at hl 0 rfl) ?_
      refine lv_aload_n hx hb dX2_takeBit_38 rfl (lv_at hl 0 rfl) ?_
      refine va_get (ci := 2) (v := .ref r1) (C := RX2) (T := TX2) (N := 9) hx hb hts hi2 hown hK hP 0 rfl rfl 0 (by decide) fl11 (fun _ h9 => h9) rfl dX2_takeBit_39 ?_
      refine lv_iload_n hx hb dX2_takeBit_42 rfl (lv_at hl 1 rfl) ?_
      refine my_aald hx hb hK hP 1 rfl (vp_in_nI (n := 5) (by omega) (by omega)) dX2_takeBit_43 ?_
      refine my_eqa (y := .ref w5) (by rw [show (5 : Int32).toNatClampNeg = 5 by decide +kernel]; rfl) ?_
      refine lv_aload_n hx hb dX2_takeBit_44 rfl (lv_at hl 0 rfl) ?_
      refine va_get (ci := 2) (v := .ref r1) (C := RX2) (T := TX2) (N := 9) hx hb hts hi2 hown hK hP 0 rfl rfl 0 (by decide) fl11 (fun _ h9 => h9) rfl dX2_takeBit_45 ?_
      refine lv_iload_n hx hb dX2_takeBit_48 rfl (lv_at hl 1 rfl) ?_
      refine lv_iconst (v := 1) hx hb dX2_takeBit_49 (by decide +kernel) ?_
      refine lv_iadd hx hb dX2_takeBit_50 ?_
      refine my_eqi (y := 6) (by decide +kernel) ?_
      refine my_aald hx hb hK hP 1 rfl (vp_in_nI (n := 6) (by omega) (by omega)) dX2_takeBit_51 ?_
      refine my_eqa (y := .ref w6) (by rw [show (6 : Int32).toNatClampNeg = 6 by decide +kernel]; rfl) ?_
      refine lv_aload_n hx hb dX2_takeBit_52 rfl (lv_at hl 0 rfl) ?_
      refine va_get (ci := 2) (v := .ref r3) (C := RX2) (T := TX2) (N := 9) hx hb hts hi2 hown hK hP 0 rfl rfl 2 (by decide) fl20 (fun _ h9 => h9) rfl dX2_takeBit_53 ?_
      refine lv_iload_n hx hb dX2_takeBit_56 rfl (lv_at hl 1 rfl) ?_
      refine va_iald hx hb hK hP 3 0 rfl rfl (vp_in_nI (n := 5) (by omega) (by omega)) dX2_takeBit_57 ?_
      refine my_eqi (y := nI b) ((congrArg rt (show (5 : Int32).toNatClampNeg = 5 by decide +kernel)).trans hrt) ?_
      refine my_goVS (wc := (wl_kf_X2_part cI cJ cK xr r1 r2 r3 r4 r5 w5 w6 (nI rz) (nI rv) rw rk ro wf5 wf6)) hP hD hS hA [0, 2, 5, 6] rfl [some 0, none, some 1, none, none, some 2, some 3] (by decide +kernel) (my_cV (As := [.ref w5, .ref w6, .int (nI b)]) (rest := []) (ci := 2) (wc := (wl_kf_X2_part cI cJ cK xr r1 r2 r3 r4 r5 w5 w6 (nI rz) (nI rv) rw rk ro wf5 wf6)) ⟨hx, hb, hml, hown, hts⟩ (cwV 3 hts gX2_takeBit_X2_part rfl rfl rfl (by decide +kernel) ⟨Nat.le_of_ble_eq_true rfl, Nat.le_of_ble_eq_true rfl⟩) hN hK hP hD [0, 2, 5, 6] rfl (by decide) rfl 0 rfl rfl rfl rfl hl.1 rfl (Nat.le_of_ble_eq_true rfl) dX2_takeBit_58 ⟨Nat.le_of_ble_eq_true rfl, Nat.le_of_ble_eq_true rfl⟩  ((kf_X2_part l D cI cJ cK xr r1 r2 r3 r4 r5 w5 w6 rz rv rw rk ro wf5 wf6 b vg (by first | assumption | omega | decide +kernel) (by first | assumption | omega | decide +kernel) (by first | assumption | omega | decide +kernel) (by first | assumption | omega | decide +kernel)) _)) (fun u H locs hp hPD hS => ?_)
      obtain ⟨ro_1, wfb_2, rfl, hpl, ht_3⟩ := hp
      obtain ⟨hP, hD⟩ := hPD rfl
      have hP : va_P D vwCl (wl_kf_X2_takeBit_5 cI cJ cK xr r1 r2 r3 r4 r5 w0 w1 w2 w3 w4 w5 w6 w7 (nI rz) (nI rv) rw rk ro_1 rt rb wf5 wfb_2 wf7) H := hP
      have hD : va_D A (wl_kf_X2_takeBit_5 cI cJ cK xr r1 r2 r3 r4 r5 w0 w1 w2 w3 w4 w5 w6 w7 (nI rz) (nI rv) rw rk ro_1 rt rb wf5 wfb_2 wf7) := hD
      refine lv_aload_n hx hb dX2_takeBit_61 rfl (lv_at hl 0 rfl) ?_
      refine lv_iload_n hx hb dX2_takeBit_62 rfl (lv_at hl 1 rfl) ?_
      refine lv_iconst (v := 1) hx hb dX2_takeBit_63 (by decide +kernel) ?_
      refine lv_iadd hx hb dX2_takeBit_64 ?_
      refine my_eqi (y := 6) (by decide +kernel) ?_
      refine lv_iload_n hx hb dX2_takeBit_65 rfl (lv_at hl 2 rfl) ?_
      refine lv_iload_n hx hb dX2_takeBit_66 rfl (lv_at hl 3 rfl) ?_
      refine my_goVS (wc := (wl_kf_X2_tryBits_6 cI cJ cK xr r1 r2 r3 r4 r5 w0 w1 w2 w3 w4 w5 w6 w7 (nI rz) (nI rv) rw rk ro_1 rt rb wfb_2 wf7)) hP hD hS hA [0, 1, 2, 3, 4, 6, 7] rfl [some 0, some 1, some 2, some 3, some 4, none, some 5, some 6] (by decide +kernel) (my_cV (As := [.int 6, .int (nI O), .int (nI ru)]) (rest := []) (ci := 2) (wc := (wl_kf_X2_tryBits_6 cI cJ cK xr r1 r2 r3 r4 r5 w0 w1 w2 w3 w4 w5 w6 w7 (nI rz) (nI rv) rw rk ro_1 rt rb wfb_2 wf7)) ⟨hx, hb, hml, hown, hts⟩ (cwV 3 hts gX2_takeBit_X2_tryBits rfl rfl rfl (by decide +kernel) ⟨Nat.le_of_ble_eq_true rfl, Nat.le_of_ble_eq_true rfl⟩) hN hK hP hD [0, 1, 2, 3, 4, 6, 7] rfl (by decide) rfl 0 rfl rfl rfl rfl hl.1 rfl (Nat.le_of_ble_eq_true rfl) dX2_takeBit_67 ⟨Nat.le_of_ble_eq_true rfl, Nat.le_of_ble_eq_true rfl⟩  ((kf_X2_tryBits_6 l D cI cJ cK xr r1 r2 r3 r4 r5 w0 w1 w2 w3 w4 w5 w6 w7 rz rv rw rk ro_1 rt rb wfb_2 wf7 O ru F (tP vg b rz) (by first | assumption | omega | decide +kernel) (by first | assumption | omega | decide +kernel) (by first | assumption | omega | decide +kernel) (by first | assumption | omega | decide +kernel) (by first | assumption | omega | decide +kernel) (by first | assumption | omega | decide +kernel) (hpl) (tP_8 hv8) (fun c hc hs => tV_p.mpr (hvr c hc hs)) (by first | assumption | omega | decide +kernel) (Or.inl (by have h9 := oS_pos hO (by omega); omega))) _)) (fun u H locs hp hPD hS => ?_)
      obtain ⟨rw_4, rk_5, ro_6, rt_7, rb_8, wf7_9, rfl, ht_10, hfw1⟩ := hp
      obtain ⟨hP, hD⟩ := hPD rfl
      have hP : va_P D vwCl (wl_kf_X2_takeBit_5 cI cJ cK xr r1 r2 r3 r4 r5 w0 w1 w2 w3 w4 w5 w6 w7 (nI rz) (nI rv) rw_4 rk_5 ro_6 rt_7 rb_8 wf5 wfb_2 wf7_9) H := hP
      have hD : va_D A (wl_kf_X2_takeBit_5 cI cJ cK xr r1 r2 r3 r4 r5 w0 w1 w2 w3 w4 w5 w6 w7 (nI rz) (nI rv) rw_4 rk_5 ro_6 rt_7 rb_8 wf5 wfb_2 wf7_9) := hD
      exact my_retV hx hb hr hlocks hK hS (wl_kf_X2_takeBit_5 cI cJ cK xr r1 r2 r3 r4 r5 w0 w1 w2 w3 w4 w5 w6 w7 (nI rz) (nI rv) rw_4 rk_5 ro_6 rt_7 rb_8 wf5 wfb_2 wf7_9) hP hD (⟨rw_4, rk_5, ro_6, rt_7, rb_8, wfb_2, wf7_9, rfl, (by first | assumption | omega | trivial | decide +kernel), (by first | exact tk_0 (by omega) (by omega) hru | (rw [show ((rv - 1) - 5) = rv - 6 from (by omega)]; exact hfw1) | (exfalso; have h9 := oS_pos hO (by omega); omega))⟩) dX2_takeBit_70
  ·
    have d1 : ((O : Nat) : Int) = (0 : Int) := my_eq c1 (nI_toInt (by omega)) (by decide +kernel)
    refine lv_aload_n hx hb dX2_takeBit_4 rfl (lv_at hl 0 rfl) ?_
    refine lv_iload_n hx hb dX2_takeBit_5 rfl (lv_at hl 3 rfl) ?_
    refine va_put (ci := 2) (v := .int (nI ru)) (ty := (.int)) (C := RX2) (T := TX2) (N := 9) hx hb hts hi2 tyX2 tyX2_ok nmX2 hown hK hP hD hS 0 rfl rfl 7 (by decide) fl37 (fun _ h9 => h9) rfl (by decide +kernel) rfl rfl (Nat.le_of_ble_eq_true rfl) dX2_takeBit_6 (fun H locs hP hD hS => ?_)
    have hP : va_P D vwCl (wl_kf_X2_takeBit_5 cI cJ cK xr r1 r2 r3 r4 r5 w0 w1 w2 w3 w4 w5 w6 w7 (nI rz) (nI rv) (nI ru) rk ro rt rb wf5 wf6 wf7) H := hP
    have hD : va_D A (wl_kf_X2_takeBit_5 cI cJ cK xr r1 r2 r3 r4 r5 w0 w1 w2 w3 w4 w5 w6 w7 (nI rz) (nI rv) (nI ru) rk ro rt rb wf5 wf6 wf7) := hD
    refine lv_aload_n hx hb dX2_takeBit_9 rfl (lv_at hl 0 rfl) ?_
    refine va_get (ci := 2) (v := .ref r3) (C := RX2) (T := TX2) (N := 9) hx hb hts hi2 hown hK hP 0 rfl rfl 2 (by decide) fl20 (fun _ h9 => h9) rfl dX2_takeBit_10 ?_
    refine lv_iconst (v := 0) hx hb dX2_takeBit_13 (by decide +kernel) ?_
    refine lv_aload_n hx hb dX2_takeBit_14 rfl (lv_at hl 0 rfl) ?_
    refine va_get (ci := 2) (v := .ref r4) (C := RX2) (T := TX2) (N := 9) hx hb hts hi2 hown hK hP 0 rfl rfl 3 (by decide) fl24 (fun _ h9 => h9) rfl dX2_takeBit_15 ?_
    refine lv_iconst (v := 0) hx hb dX2_takeBit_18 (by decide +kernel) ?_
    refine lv_aload_n hx hb dX2_takeBit_19 rfl (lv_at hl 0 rfl) ?_
    refine va_get (ci := 2) (v := .int (nI rv)) (C := RX2) (T := TX2) (N := 9) hx hb hts hi2 hown hK hP 0 rfl rfl 6 (by decide) fl34 (fun _ h9 => h9) rfl dX2_takeBit_20 ?_
    refine va_copyi hx hb (hml.trans hl.1.symm) hown (hts (.methodLink RX2 75 arraycopyName) (by decide +kernel)) (hts (.native arraycopyName) (by decide +kernel)) (hts (.static arraycopyName) (by decide +kernel)) (hts (.initialized "java/lang/System") (by decide +kernel)) hK hP hD hS 3 4 0 0 rfl rfl rfl rfl rfl (by decide +kernel) (by decide +kernel) (nI_nneg (by omega)) (by rw [show (0 : Int32).toNatClampNeg = 0 from (by decide +kernel), show (nI rv : Int32).toNatClampNeg = rv from (nI_clamp (by omega))]; omega) (by rw [show (0 : Int32).toNatClampNeg = 0 from (by decide +kernel), show (nI rv : Int32).toNatClampNeg = rv from (nI_clamp (by omega))]; omega) (fun _ _ => rfl) (Nat.le_of_ble_eq_true rfl) (Nat.le_of_ble_eq_true rfl) dX2_takeBit_23 (fun H locs hP hD hS => ?_)
    obtain ⟨g_11, eg_11⟩ : ∃ g : Nat → Int32, g = va_cpy rt rb 0 0 rv := ⟨_, rfl⟩
    have eU : va_cpy rt rb (0 : Int32).toNatClampNeg (0 : Int32).toNatClampNeg (nI rv : Int32).toNatClampNeg = g_11 := by rw [eg_11, show (0 : Int32).toNatClampNeg = 0 from (by decide +kernel), show (nI rv : Int32).toNatClampNeg = rv from (nI_clamp (by omega))]
    rw [eU] at hP hD
    have hP : va_P D vwCl (wl_kf_X2_takeBit_5 cI cJ cK xr r1 r2 r3 r4 r5 w0 w1 w2 w3 w4 w5 w6 w7 (nI rz) (nI rv) (nI ru) rk ro rt g_11 wf5 wf6 wf7) H := hP
    have hD : va_D A (wl_kf_X2_takeBit_5 cI cJ cK xr r1 r2 r3 r4 r5 w0 w1 w2 w3 w4 w5 w6 w7 (nI rz) (nI rv) (nI ru) rk ro rt g_11 wf5 wf6 wf7) := hD
    refine lv_goto (tgt := 70) hx hb dX2_takeBit_26 (by decide) ?_
    exact my_retV hx hb hr hlocks hK hS (wl_kf_X2_takeBit_5 cI cJ cK xr r1 r2 r3 r4 r5 w0 w1 w2 w3 w4 w5 w6 w7 (nI rz) (nI rv) (nI ru) rk ro rt g_11 wf5 wf6 wf7) hP hD (⟨(nI ru), rk, ro, rt, g_11, wf6, wf7, rfl, (by first | assumption | omega | trivial | decide +kernel), (by first | exact tk_0 (by omega) (by omega) hru | (rw [show ((rv - 1) - 5) = rv - 6 from (by omega)]; exact hfw1) | (exfalso; have h9 := oS_pos hO (by omega); omega))⟩) dX2_takeBit_70
abbrev wl_kf_X2_tryBits_5 (cI cJ cK : ClassId) (xr : Nat) (r1 : Nat) (r2 : Nat) (r3 : Nat) (r4 : Nat) (r5 : Nat) (w0 : Nat) (w1 : Nat) (w2 : Nat) (w3 : Nat) (w4 : Nat) (w5 : Nat) (w6 : Nat) (w7 : Nat) (v0_ : Int32) (v1_ : Int32) (v2_ : Int32) (v3_ : Int32) (v4_ : Nat → Int64) (v5_ : Nat → Int32) (v6_ : Nat → Int32) (v7_ : Nat → Int64) (v8_ : Nat → Int64) (v9_ : Nat → Int64) : va_W := [(xr, .inr (2, [.ref r1, .ref r2, .ref r3, .ref r4, .ref r5, .int v0_, .int v1_, .int v2_, .int v3_])), (r1, .inl (cK, 8, .inr (.inr (.inr (.inr (fun j => ([w0, w1, w2, w3, w4, w5, w6, w7] : List Nat)[j]?)))))), (r2, .inl (cJ, 64, .inr (.inl v4_))), (r3, .inl (cI, 8, .inl v5_)), (r4, .inl (cI, 8, .inl v6_)), (w5, .inl (cJ, 64, .inr (.inl v7_))), (w6, .inl (cJ, 64, .inr (.inl v8_))), (w7, .inl (cJ, 64, .inr (.inl v9_)))]
set_option maxHeartbeats 4000000 in
set_option maxRecDepth 100000 in
theorem kf_X2_tryBits_5 (l : Launch) (D : va_G) (cI cJ cK : ClassId) (xr : Nat) (r1 : Nat) (r2 : Nat) (r3 : Nat) (r4 : Nat) (r5 : Nat) (w0 : Nat) (w1 : Nat) (w2 : Nat) (w3 : Nat) (w4 : Nat) (w5 : Nat) (w6 : Nat) (w7 : Nat) (rz : Nat) (rv : Nat) (rw : Int32) (rk : Int32) (ro : Nat → Int64) (rt : Nat → Int32) (rb : Nat → Int32) (wf5 : Nat → Int64) (wf6 : Nat → Int64) (wf7 : Nat → Int64) (O : Nat) (ra : Nat) (F : Nat) (vg : Nat → Nat) (hz_rz : rz ≤ 64) (hz_rv : rv ≤ 8) (hO : O < 256) (hra : ra ≤ 320) (hF : F ≤ 513) (hfw : rw = nI F) (hln : ∀ i, i < rz → wf5 i = lN (laN (vg i))) (hv8 : ∀ i, i < rz → vg i < 256) (hvr : ∀ c, c < 8 → oS O c = true → tV vg rz c) (hcd : tC (oS O) + 5 = rv) (hj0 : 5 < rv ∨ F = 0) : ctV l yX2_tryBits wsX2_tryBits ({ frames := 7, cells := 0, slots := 0, locals := 420 } : Room) D (tyIJ cI cJ cK) [.ref xr, .int 5, .int (nI O), .int (nI ra)] (wl_kf_X2_tryBits_5 cI cJ cK xr r1 r2 r3 r4 r5 w0 w1 w2 w3 w4 w5 w6 w7 (nI rz) (nI rv) rw rk ro rt rb wf5 wf6 wf7) (fun (u : va_W) => ∃ (rw' : Int32) (rk' : Int32) (ro' : Nat → Int64) (rt' : Nat → Int32) (rb' : Nat → Int32) (wf6' : Nat → Int64) (wf7' : Nat → Int64), u = (wl_kf_X2_tryBits_5 cI cJ cK xr r1 r2 r3 r4 r5 w0 w1 w2 w3 w4 w5 w6 w7 (nI rz) (nI rv) rw' rk' ro' rt' rb' wf5 wf6' wf7') ∧ True ∧ rw' = nI (min F (ra + tT rz (rv - 5) vg (oS O)))) := by
  refine ctV.of (cc := cX2_tryBits) (maxL := 9) (ret := none) (by decide) rfl (Nat.le_of_ble_eq_true rfl) ?_
  intro p e s m below meth c ls A hx hb hr hts hown hml hlocks hname hA hK hN hP hD hS hl
  have hl : lv_has ls 9 [(0, .ref xr), (1, .int 5), (2, .int (nI O)), (3, .int (nI ra))] := hl
  have hown : s.vm.findClass RX2 = some m.cls := hown
  have hi2 : ∀ w ∈ u_ws RX2 TX2 9, w ∈ wsX2_tryBits := by decide +kernel
  have fl11 := hts (.fieldLink RX2 11 "PlaneColumn$OrderSearch" "lines" "[[J") (by decide +kernel)
  have fl20 := hts (.fieldLink RX2 20 "PlaneColumn$OrderSearch" "tried" "[I") (by decide +kernel)
  have fl34 := hts (.fieldLink RX2 34 "PlaneColumn$OrderSearch" "variedCount" "I") (by decide +kernel)
  have fl37 := hts (.fieldLink RX2 37 "PlaneColumn$OrderSearch" "fewest" "I") (by decide +kernel)
  refine lv_iload_n hx hb dX2_tryBits_0 rfl (lv_at hl 1 rfl) ?_
  refine lv_aload_n hx hb dX2_tryBits_1 rfl (lv_at hl 0 rfl) ?_
  refine va_get (ci := 2) (v := .int (nI rv)) (C := RX2) (T := TX2) (N := 9) hx hb hts hi2 hown hK hP 0 rfl rfl 6 (by decide) fl34 (fun _ h9 => h9) rfl dX2_tryBits_2 ?_
  refine lv_icmp_ge (tgt := 14) hx hb dX2_tryBits_5 (by decide) (fun c5 => ?_) (fun c5 => ?_)
  ·
    have d5 : (5 : Int) ≥ ((rv : Nat) : Int) := my_ge c5 (by decide +kernel) (nI_toInt (by omega))
    exact my_retV hx hb hr hlocks hK hS (wl_kf_X2_tryBits_5 cI cJ cK xr r1 r2 r3 r4 r5 w0 w1 w2 w3 w4 w5 w6 w7 (nI rz) (nI rv) rw rk ro rt rb wf5 wf6 wf7) hP hD (⟨rw, rk, ro, rt, rb, wf6, wf7, rfl, (by first | assumption | omega | trivial | decide +kernel), (by first | exact tc_end hfw2 (by omega) (by omega) | exact tc_no hfw (by omega))⟩) dX2_tryBits_14
  ·
    have d5 : (5 : Int) < ((rv : Nat) : Int) := my_nge c5 (by decide +kernel) (nI_toInt (by omega))
    refine lv_iload_n hx hb dX2_tryBits_8 rfl (lv_at hl 1 rfl) ?_
    refine lv_bipush (v := 8) hx hb dX2_tryBits_9 (by decide +kernel) ?_
    refine lv_icmp_lt (tgt := 15) hx hb dX2_tryBits_11 (by decide) (fun c11 => ?_) (fun c11 => ?_)
    ·
      refine lv_aload_n hx hb dX2_tryBits_15 rfl (lv_at hl 0 rfl) ?_
      refine lv_aload_n hx hb dX2_tryBits_16 rfl (lv_at hl 0 rfl) ?_
      refine va_get (ci := 2) (v := .ref r1) (C := RX2) (T := TX2) (N := 9) hx hb hts hi2 hown hK hP 0 rfl rfl 0 (by decide) fl11 (fun _ h9 => h9) rfl dX2_tryBits_17 ?_
      refine lv_iload_n hx hb dX2_tryBits_20 rfl (lv_at hl 1 rfl) ?_
      refine my_aald hx hb hK hP 1 rfl (vp_in_nI (n := 5) (by omega) (by omega)) dX2_tryBits_21 ?_
      refine my_eqa (y := .ref w5) (by rw [show (5 : Int32).toNatClampNeg = 5 by decide +kernel]; rfl) ?_
      refine my_gpL (my_pV (As := [.ref w5]) (rest := []) (ci := 2) ⟨hx, hb, hml, hown, hts⟩ (cwV 1 hts gX2_tryBits_X2_changesOf rfl rfl rfl (by decide +kernel) ⟨Nat.le_of_ble_eq_true rfl, Nat.le_of_ble_eq_true rfl⟩) hN hK hP [0, 5] rfl 0 rfl rfl rfl rfl hl.1 rfl (Nat.le_of_ble_eq_true rfl) dX2_tryBits_22 ⟨Nat.le_of_ble_eq_true rfl, Nat.le_of_ble_eq_true rfl⟩  (kf_X2_changesOf l D cI cJ cK xr r1 r2 r3 r4 r5 w5 rz rv rw rk wf5 vg (by first | assumption | omega | decide +kernel) (by first | assumption | omega | decide +kernel) (by first | assumption | omega | decide +kernel) (by first | assumption | omega | decide +kernel))) (fun r hp => ?_)
      obtain ⟨c_1, rfl, hcc, ht_2⟩ := hp
      refine lv_lstore (lv' := [(4, .long (lN c_1)), (0, .ref xr), (1, .int 5), (2, .int (nI O)), (3, .int (nI ra))]) hx hb dX2_tryBits_25 hl (by decide) rfl (fun ls hl => ?_)
      refine lv_iconst (v := 2) hx hb dX2_tryBits_27 (by decide +kernel) ?_
      refine lv_aload_n hx hb dX2_tryBits_28 rfl (lv_at hl 1 rfl) ?_
      refine va_get (ci := 2) (v := .int (nI rv)) (C := RX2) (T := TX2) (N := 9) hx hb hts hi2 hown hK hP 0 rfl rfl 6 (by decide) fl34 (fun _ h9 => h9) rfl dX2_tryBits_29 ?_
      refine lv_iconst (v := 1) hx hb dX2_tryBits_32 (by decide +kernel) ?_
      refine lv_isub hx hb dX2_tryBits_33 ?_
      refine my_eqi (y := nI (rv - 1)) (my_subN (a := rv) (b := 1) (by omega)) ?_
      refine lv_iload_n hx hb dX2_tryBits_34 rfl (lv_at hl 2 rfl) ?_
      refine lv_isub hx hb dX2_tryBits_35 ?_
      refine my_eqi (y := nI ((rv - 1) - 5)) (my_subN (a := rv - 1) (b := 5) (by omega)) ?_
      refine lv_imul hx hb dX2_tryBits_36 ?_
      refine my_eqi (y := nI (2 * ((rv - 1) - 5))) (my_mulN _ _) ?_
      refine lv_istore (lv' := [(6, .int (nI (2 * ((rv - 1) - 5)))), (4, .long (lN c_1)), (0, .ref xr), (1, .int 5), (2, .int (nI O)), (3, .int (nI ra))]) hx hb dX2_tryBits_37 hl (by decide) rfl (fun ls hl => ?_)
      refine lv_bipush (v := 7) hx hb dX2_tryBits_39 (by decide +kernel) ?_
      refine lv_istore (lv' := [(7, .int 7), (6, .int (nI (2 * ((rv - 1) - 5)))), (4, .long (lN c_1)), (0, .ref xr), (1, .int 5), (2, .int (nI O)), (3, .int (nI ra))]) hx hb dX2_tryBits_41 hl (by decide) rfl (fun ls hl => ?_)
      have loop43 : ∀ (n9 : Nat) (x : Int32) (xr_fewest_43 : Int32) (xr_known_43 : Int32) (r2_43 : Nat → Int64) (r3_43 : Nat → Int32) (r4_43 : Nat → Int32) (w6_43 : Nat → Int64) (w7_43 : Nat → Int64), (x.toInt + 1).toNat < n9 → (-1 ≤ x.toInt) → (x.toInt ≤ 7) → (xr_fewest_43 = nI (min F (ra + tM (tF rz ((rv - 1) - 5) vg (oS O)) (oS O) (7 - x.toInt).toNat))) → ∀ (H : Heap) (locs : List Loc) (ls : Array Slot), va_P D vwCl (wl_kf_X2_tryBits_5 cI cJ cK xr r1 r2 r3 r4 r5 w0 w1 w2 w3 w4 w5 w6 w7 (nI rz) (nI rv) xr_fewest_43 xr_known_43 r2_43 r3_43 r4_43 wf5 w6_43 w7_43) H → va_D A (wl_kf_X2_tryBits_5 cI cJ cK xr r1 r2 r3 r4 r5 w0 w1 w2 w3 w4 w5 w6 w7 (nI rz) (nI rv) xr_fewest_43 xr_known_43 r2_43 r3_43 r4_43 wf5 w6_43 w7_43) → va_S A s.heap H locs → lv_has ls 9 [(7, .int x), (6, .int (nI (2 * ((rv - 1) - 5)))), (4, .long (lN c_1)), (0, .ref xr), (1, .int 5), (2, .int (nI O)), (3, .int (nI ra))] → W p l e ({ frames := 7, cells := 0, slots := 0, locals := 420 } : Room) s m [.ref xr, .int 5, .int (nI O), .int (nI ra)].toArray below meth c H locs 0 0 (MQ below (va_Qv (fun (u : va_W) => ∃ (rw' : Int32) (rk' : Int32) (ro' : Nat → Int64) (rt' : Nat → Int32) (rb' : Nat → Int32) (wf6' : Nat → Int64) (wf7' : Nat → Int64), u = (wl_kf_X2_tryBits_5 cI cJ cK xr r1 r2 r3 r4 r5 w0 w1 w2 w3 w4 w5 w6 w7 (nI rz) (nI rv) rw' rk' ro' rt' rb' wf5 wf6' wf7') ∧ True ∧ rw' = nI (min F (ra + tT rz (rv - 5) vg (oS O)))) (my_B D (tyIJ cI cJ cK) A) A) [.ref xr, .int 5, .int (nI O), .int (nI ra)].toArray s 0 0 A) (F0 m 43 ls []) := by
        intro n9
        induction n9 with
        | zero =>
          intro x xr_fewest_43 xr_known_43 r2_43 r3_43 r4_43 w6_43 w7_43 hn9
          exact absurd hn9 (Nat.not_lt_zero _)
        | succ n9 ih43 =>
          intro x xr_fewest_43 xr_known_43 r2_43 r3_43 r4_43 w6_43 w7_43 hn9 hx0 hx1 hfw2 H locs ls hP hD hS hl
          have hfi : xr_fewest_43.toInt = (((min F (ra + tM (tF rz ((rv - 1) - 5) vg (oS O)) (oS O) (7 - x.toInt).toNat)) : Nat) : Int) := by rw [hfw2]; exact nI_toInt (by omega)
          refine lv_iload hx hb dX2_tryBits_43 (lv_at hl 0 rfl) ?_
          refine lv_if_lt (tgt := 117) hx hb dX2_tryBits_45 (by decide) (fun c45 => ?_) (fun c45 => ?_)
          ·
            have d45 : x.toInt < (0 : Int) := my_lt c45 rfl (by decide +kernel)
            exact my_retV hx hb hr hlocks hK hS (wl_kf_X2_tryBits_5 cI cJ cK xr r1 r2 r3 r4 r5 w0 w1 w2 w3 w4 w5 w6 w7 (nI rz) (nI rv) xr_fewest_43 xr_known_43 r2_43 r3_43 r4_43 wf5 w6_43 w7_43) hP hD (⟨xr_fewest_43, xr_known_43, r2_43, r3_43, r4_43, w6_43, w7_43, rfl, (by first | assumption | omega | trivial | decide +kernel), (by first | exact tc_end hfw2 (by omega) (by omega) | exact tc_no hfw (by omega))⟩) dX2_tryBits_117
          ·
            have d45 : x.toInt ≥ (0 : Int) := my_nlt c45 rfl (by decide +kernel)
            obtain ⟨w_3, rfl, hw_3⟩ := my_natP (x := x) (by omega)
            refine lv_iload_n hx hb dX2_tryBits_48 rfl (lv_at hl 6 rfl) ?_
            refine lv_iconst (v := 1) hx hb dX2_tryBits_49 (by decide +kernel) ?_
            refine lv_iadd hx hb dX2_tryBits_50 ?_
            refine my_eqi (y := nI (ra + 1)) (my_addN ra 1) ?_
            refine lv_lload hx hb dX2_tryBits_51 (lv_at hl 2 rfl) ?_
            refine lv_bipush (v := 8) hx hb dX2_tryBits_53 (by decide +kernel) ?_
            refine lv_iload hx hb dX2_tryBits_55 (lv_at hl 0 rfl) ?_
            refine lv_imul hx hb dX2_tryBits_57 ?_
            refine my_eqi (y := nI (8 * w_3)) (my_mulN _ _) ?_
            have hclt : c_1 < 18446744073709551616 := by rw [hcc]; exact chS_lt vg hz_rz
            refine lv_lushr (v := lN (c_1 / 256 ^ w_3)) hx hb dX2_tryBits_58 (ush_8 hclt (by omega)) ?_
            refine lv_ldc2 (v := 255) hx hb hown (hts (.constantLong RX2 70 (255)) (by decide +kernel)) dX2_tryBits_59 ?_
            refine lv_land hx hb dX2_tryBits_62 ?_
            refine my_eql (y := lN (c_1 / 256 ^ w_3 % 256)) (and_255 (Nat.lt_of_le_of_lt (Nat.div_le_self _ _) hclt)) ?_
            refine lv_l2i (v := nI (c_1 / 256 ^ w_3 % 256)) hx hb dX2_tryBits_63 (l2i_N (by omega)) ?_
            refine lv_iadd hx hb dX2_tryBits_64 ?_
            refine my_eqi (y := nI (ra + 1 + c_1 / 256 ^ w_3 % 256)) (nI_add _ _) ?_
            refine lv_istore (lv' := [(8, .int (nI (ra + 1 + c_1 / 256 ^ w_3 % 256))), (7, .int (nI w_3)), (6, .int (nI (2 * ((rv - 1) - 5)))), (4, .long (lN c_1)), (0, .ref xr), (1, .int 5), (2, .int (nI O)), (3, .int (nI ra))]) hx hb dX2_tryBits_65 hl (by decide) rfl (fun ls hl => ?_)
            refine lv_iload_n hx hb dX2_tryBits_67 rfl (lv_at hl 6 rfl) ?_
            refine lv_iload hx hb dX2_tryBits_68 (lv_at hl 1 rfl) ?_
            refine lv_ishr hx hb dX2_tryBits_70 ?_
            refine my_eqi (y := nI (O / 2 ^ w_3)) (my_shrG (by omega) (by omega)) ?_
            refine lv_iconst (v := 1) hx hb dX2_tryBits_71 (by decide +kernel) ?_
            refine lv_iand hx hb dX2_tryBits_72 ?_
            refine my_eqi (y := nI ((O / 2 ^ w_3) % 2)) (my_maskN _ 1) ?_
            refine lv_if_eq (tgt := 111) hx hb dX2_tryBits_73 (by decide) (fun c73 => ?_) (fun c73 => ?_)
            ·
              have d73 : (((O / 2 ^ w_3) % 2 : Nat) : Int) = (0 : Int) := my_eq c73 (nI_toInt (by omega)) (by decide +kernel)
              obtain ⟨z_4, ez_4⟩ : ∃ y : Int32, y = nI w_3 + (-1) := ⟨_, rfl⟩
              try have tz_4 : z_4.toInt = ((w_3 : Nat) : Int) + (-1) := by rw [ez_4]; exact my_addI (nI_toInt (by omega)) (by decide +kernel) (by omega) (by omega)
              refine lv_iinc (v := z_4) (lv' := [(7, .int z_4), (8, .int (nI (ra + 1 + c_1 / 256 ^ w_3 % 256))), (6, .int (nI (2 * ((rv - 1) - 5)))), (4, .long (lN c_1)), (0, .ref xr), (1, .int 5), (2, .int (nI O)), (3, .int (nI ra))]) hx hb dX2_tryBits_111 hl (k := 1) rfl (by rw [ez_4]; rfl) (by decide) rfl (fun ls hl => ?_)
              refine lv_goto (tgt := 43) hx hb dX2_tryBits_114 (by decide) ?_
              exact ih43  z_4 xr_fewest_43 xr_known_43 r2_43 r3_43 r4_43 w6_43 w7_43 (by omega) (by first | assumption | omega | decide +kernel) (by first | assumption | omega | decide +kernel) (by first | exact tc_skip hfw2 (by omega) (by omega) (by omega) (os_f d73 (by omega)) | exact tc_bound hfw2 (by omega) (by omega) (by omega) (os_t d73 (by omega)) (by omega) | exact tc_done hfw1 (by omega) (by omega) (by omega) (os_t d73 (by omega)) (rm_G hO (by omega) hbt hru9 (by omega))) _ _ ls hP hD hS (lv_sub hl [0, 2, 3, 4, 5, 6, 7] rfl)
            ·
              have d73 : (((O / 2 ^ w_3) % 2 : Nat) : Int) ≠ (0 : Int) := my_ne c73 (nI_toInt (by omega)) (by decide +kernel)
              have hbt : Nat.testBit O w_3 = true := bN_t (by rw [← bn_tb]; omega)
              have hrz : 0 < rz := by obtain ⟨i9, hi9, -⟩ := hvr w_3 (by omega) hbt; omega
              have hru9 : ra + 1 + c_1 / 256 ^ w_3 % 256 = ra + rnF (tB vg w_3) rz := by rw [hcc, chS_at (by omega) hz_rz, tG_rn hrz]; omega
              have hrl := rnF_le (tB vg w_3) rz
              have hlb : rnF (tB vg w_3) rz + 2 * ((rv - 1) - 5) ≤ (tF rz ((rv - 1) - 5) vg (oS O)) (nI w_3).toInt.toNat := by rw [show (nI w_3).toInt.toNat = w_3 from (by omega)]; exact th_lb (by omega) hvr
              refine lv_iload hx hb dX2_tryBits_76 (lv_at hl 0 rfl) ?_
              refine lv_iload hx hb dX2_tryBits_78 (lv_at hl 2 rfl) ?_
              refine lv_iadd hx hb dX2_tryBits_80 ?_
              refine my_eqi (y := nI (ra + 1 + c_1 / 256 ^ w_3 % 256 + (2 * ((rv - 1) - 5)))) (nI_add _ _) ?_
              refine lv_aload_n hx hb dX2_tryBits_81 rfl (lv_at hl 4 rfl) ?_
              refine va_get (ci := 2) (v := .int xr_fewest_43) (C := RX2) (T := TX2) (N := 9) hx hb hts hi2 hown hK hP 0 rfl rfl 7 (by decide) fl37 (fun _ h9 => h9) rfl dX2_tryBits_82 ?_
              refine lv_icmp_ge (tgt := 111) hx hb dX2_tryBits_85 (by decide) (fun c85 => ?_) (fun c85 => ?_)
              ·
                have d85 : ((ra + 1 + c_1 / 256 ^ w_3 % 256 + (2 * ((rv - 1) - 5)) : Nat) : Int) ≥ xr_fewest_43.toInt := my_ge c85 (nI_toInt (by omega)) rfl
                obtain ⟨z_5, ez_5⟩ : ∃ y : Int32, y = nI w_3 + (-1) := ⟨_, rfl⟩
                try have tz_5 : z_5.toInt = ((w_3 : Nat) : Int) + (-1) := by rw [ez_5]; exact my_addI (nI_toInt (by omega)) (by decide +kernel) (by omega) (by omega)
                refine lv_iinc (v := z_5) (lv' := [(7, .int z_5), (8, .int (nI (ra + 1 + c_1 / 256 ^ w_3 % 256))), (6, .int (nI (2 * ((rv - 1) - 5)))), (4, .long (lN c_1)), (0, .ref xr), (1, .int 5), (2, .int (nI O)), (3, .int (nI ra))]) hx hb dX2_tryBits_111 hl (k := 1) rfl (by rw [ez_5]; rfl) (by decide) rfl (fun ls hl => ?_)
                refine lv_goto (tgt := 43) hx hb dX2_tryBits_114 (by decide) ?_
                exact ih43  z_5 xr_fewest_43 xr_known_43 r2_43 r3_43 r4_43 w6_43 w7_43 (by omega) (by first | assumption | omega | decide +kernel) (by first | assumption | omega | decide +kernel) (by first | exact tc_skip hfw2 (by omega) (by omega) (by omega) (os_f d73 (by omega)) | exact tc_bound hfw2 (by omega) (by omega) (by omega) (os_t d73 (by omega)) (by omega) | exact tc_done hfw1 (by omega) (by omega) (by omega) (os_t d73 (by omega)) (rm_G hO (by omega) hbt hru9 (by omega))) _ _ ls hP hD hS (lv_sub hl [0, 2, 3, 4, 5, 6, 7] rfl)
              ·
                have d85 : ((ra + 1 + c_1 / 256 ^ w_3 % 256 + (2 * ((rv - 1) - 5)) : Nat) : Int) < xr_fewest_43.toInt := my_nge c85 (nI_toInt (by omega)) rfl
                refine lv_aload_n hx hb dX2_tryBits_88 rfl (lv_at hl 4 rfl) ?_
                refine va_get (ci := 2) (v := .ref r3) (C := RX2) (T := TX2) (N := 9) hx hb hts hi2 hown hK hP 0 rfl rfl 2 (by decide) fl20 (fun _ h9 => h9) rfl dX2_tryBits_89 ?_
                refine lv_iload_n hx hb dX2_tryBits_92 rfl (lv_at hl 5 rfl) ?_
                refine lv_iload hx hb dX2_tryBits_93 (lv_at hl 1 rfl) ?_
                refine va_iast hx hb hK hP hD hS 3 0 rfl rfl (vp_in_nI (n := 5) (by omega) (by omega)) dX2_tryBits_95 (fun H locs hP hD hS => ?_)
                obtain ⟨g_6, eg_6⟩ : ∃ g : Nat → Int32, g = upd r3_43 5 (nI w_3) := ⟨_, rfl⟩
                have eU : upd r3_43 (5 : Int32).toNatClampNeg (nI w_3) = g_6 := by rw [eg_6, show (5 : Int32).toNatClampNeg = 5 from by decide +kernel]
                rw [eU] at hP hD
                have hP : va_P D vwCl (wl_kf_X2_tryBits_5 cI cJ cK xr r1 r2 r3 r4 r5 w0 w1 w2 w3 w4 w5 w6 w7 (nI rz) (nI rv) xr_fewest_43 xr_known_43 r2_43 g_6 r4_43 wf5 w6_43 w7_43) H := hP
                have hD : va_D A (wl_kf_X2_tryBits_5 cI cJ cK xr r1 r2 r3 r4 r5 w0 w1 w2 w3 w4 w5 w6 w7 (nI rz) (nI rv) xr_fewest_43 xr_known_43 r2_43 g_6 r4_43 wf5 w6_43 w7_43) := hD
                refine lv_aload_n hx hb dX2_tryBits_96 rfl (lv_at hl 4 rfl) ?_
                refine lv_iload_n hx hb dX2_tryBits_97 rfl (lv_at hl 5 rfl) ?_
                refine lv_iload_n hx hb dX2_tryBits_98 rfl (lv_at hl 6 rfl) ?_
                refine lv_iconst (v := 1) hx hb dX2_tryBits_99 (by decide +kernel) ?_
                refine lv_iload hx hb dX2_tryBits_100 (lv_at hl 1 rfl) ?_
                refine lv_ishl hx hb dX2_tryBits_102 ?_
                refine my_eqi (y := nI (2 ^ w_3)) (my_shl1 (by omega)) ?_
                refine lv_iconst (v := (-1)) hx hb dX2_tryBits_103 (by decide +kernel) ?_
                refine lv_ixor hx hb dX2_tryBits_104 ?_
                refine my_eqi (y := (nI (2 ^ w_3) ^^^ (-1))) (rfl) ?_
                refine lv_iand hx hb dX2_tryBits_105 ?_
                refine my_eqi (y := nI (O - 2 ^ w_3)) ((rm_b O hO _ (by omega) hbt).1) ?_
                refine lv_iload hx hb dX2_tryBits_106 (lv_at hl 0 rfl) ?_
                refine my_goVS (wc := (wl_kf_X2_takeBit_5 cI cJ cK xr r1 r2 r3 r4 r5 w0 w1 w2 w3 w4 w5 w6 w7 (nI rz) (nI rv) xr_fewest_43 xr_known_43 r2_43 g_6 r4_43 wf5 w6_43 w7_43)) hP hD hS hA [0, 1, 2, 3, 4, 5, 6, 7] rfl [some 0, some 1, some 2, some 3, some 4, some 5, some 6, some 7] (by decide +kernel) (my_cV (As := [.int 5, .int (nI (O - 2 ^ w_3)), .int (nI (ra + 1 + c_1 / 256 ^ w_3 % 256))]) (rest := []) (ci := 2) (wc := (wl_kf_X2_takeBit_5 cI cJ cK xr r1 r2 r3 r4 r5 w0 w1 w2 w3 w4 w5 w6 w7 (nI rz) (nI rv) xr_fewest_43 xr_known_43 r2_43 g_6 r4_43 wf5 w6_43 w7_43)) ⟨hx, hb, hml, hown, hts⟩ (cwV 3 hts gX2_tryBits_X2_takeBit rfl rfl rfl (by decide +kernel) ⟨Nat.le_of_ble_eq_true rfl, Nat.le_of_ble_eq_true rfl⟩) hN hK hP hD [0, 1, 2, 3, 4, 5, 6, 7] rfl (by decide) rfl 0 rfl rfl rfl rfl hl.1 rfl (Nat.le_of_ble_eq_true rfl) dX2_tryBits_108 ⟨Nat.le_of_ble_eq_true rfl, Nat.le_of_ble_eq_true rfl⟩  ((kf_X2_takeBit_5 l D cI cJ cK xr r1 r2 r3 r4 r5 w0 w1 w2 w3 w4 w5 w6 w7 rz rv xr_fewest_43 xr_known_43 r2_43 g_6 r4_43 wf5 w6_43 w7_43 (O - 2 ^ w_3) (ra + 1 + c_1 / 256 ^ w_3 % 256) w_3 (min F (ra + tM (tF rz ((rv - 1) - 5) vg (oS O)) (oS O) (7 - (nI w_3).toInt).toNat)) vg (by first | assumption | omega | decide +kernel) (by first | assumption | omega | decide +kernel) (by first | assumption | omega | decide +kernel) (us_at (by assumption)) ((rm_b O hO _ (by omega) hbt).2.1) (by have h9 := rm_c hO (by omega) hbt; omega) (rm_v hO (by omega) hbt hvr) (hfw2) (by first | assumption | omega | decide +kernel) (by first | assumption | omega | decide +kernel) (by first | assumption | omega | decide +kernel) (by first | assumption | omega | decide +kernel) (by first | assumption | omega | decide +kernel)) _)) (fun u H locs hp hPD hS => ?_)
                obtain ⟨rw_7, rk_8, ro_9, rt_10, rb_11, wf6_12, wf7_13, rfl, ht_14, hfw1⟩ := hp
                obtain ⟨hP, hD⟩ := hPD rfl
                have hP : va_P D vwCl (wl_kf_X2_tryBits_5 cI cJ cK xr r1 r2 r3 r4 r5 w0 w1 w2 w3 w4 w5 w6 w7 (nI rz) (nI rv) rw_7 rk_8 ro_9 rt_10 rb_11 wf5 wf6_12 wf7_13) H := hP
                have hD : va_D A (wl_kf_X2_tryBits_5 cI cJ cK xr r1 r2 r3 r4 r5 w0 w1 w2 w3 w4 w5 w6 w7 (nI rz) (nI rv) rw_7 rk_8 ro_9 rt_10 rb_11 wf5 wf6_12 wf7_13) := hD
                obtain ⟨z_15, ez_15⟩ : ∃ y : Int32, y = nI w_3 + (-1) := ⟨_, rfl⟩
                try have tz_15 : z_15.toInt = ((w_3 : Nat) : Int) + (-1) := by rw [ez_15]; exact my_addI (nI_toInt (by omega)) (by decide +kernel) (by omega) (by omega)
                refine lv_iinc (v := z_15) (lv' := [(7, .int z_15), (8, .int (nI (ra + 1 + c_1 / 256 ^ w_3 % 256))), (6, .int (nI (2 * ((rv - 1) - 5)))), (4, .long (lN c_1)), (0, .ref xr), (1, .int 5), (2, .int (nI O)), (3, .int (nI ra))]) hx hb dX2_tryBits_111 hl (k := 1) rfl (by rw [ez_15]; rfl) (by decide) rfl (fun ls hl => ?_)
                refine lv_goto (tgt := 43) hx hb dX2_tryBits_114 (by decide) ?_
                exact ih43  z_15 rw_7 rk_8 ro_9 rt_10 rb_11 wf6_12 wf7_13 (by omega) (by first | assumption | omega | decide +kernel) (by first | assumption | omega | decide +kernel) (by first | exact tc_skip hfw2 (by omega) (by omega) (by omega) (os_f d73 (by omega)) | exact tc_bound hfw2 (by omega) (by omega) (by omega) (os_t d73 (by omega)) (by omega) | exact tc_done hfw1 (by omega) (by omega) (by omega) (os_t d73 (by omega)) (rm_G hO (by omega) hbt hru9 (by omega))) _ _ ls hP hD hS (lv_sub hl [0, 2, 3, 4, 5, 6, 7] rfl)
      have ec_16 : (7 : Int32).toInt = 7 := by decide +kernel
      exact loop43 ((((7 : Int32).toInt + 1).toNat) + 1) (7 : Int32) rw rk ro rt rb wf6 wf7 (Nat.lt_succ_self _) (by first | assumption | omega | decide +kernel) (by first | assumption | omega | decide +kernel) (tc_0 hfw hF) _ _ ls hP hD hS (lv_sub hl [0, 1, 2, 3, 4, 5, 6] rfl)
    ·
      exact absurd c11 (by decide +kernel)
abbrev wl_kf_X2_takeBit_4 (cI cJ cK : ClassId) (xr : Nat) (r1 : Nat) (r2 : Nat) (r3 : Nat) (r4 : Nat) (r5 : Nat) (w0 : Nat) (w1 : Nat) (w2 : Nat) (w3 : Nat) (w4 : Nat) (w5 : Nat) (w6 : Nat) (w7 : Nat) (v0_ : Int32) (v1_ : Int32) (v2_ : Int32) (v3_ : Int32) (v4_ : Nat → Int64) (v5_ : Nat → Int32) (v6_ : Nat → Int32) (v7_ : Nat → Int64) (v8_ : Nat → Int64) (v9_ : Nat → Int64) (v10_ : Nat → Int64) : va_W := [(xr, .inr (2, [.ref r1, .ref r2, .ref r3, .ref r4, .ref r5, .int v0_, .int v1_, .int v2_, .int v3_])), (r1, .inl (cK, 8, .inr (.inr (.inr (.inr (fun j => ([w0, w1, w2, w3, w4, w5, w6, w7] : List Nat)[j]?)))))), (r2, .inl (cJ, 64, .inr (.inl v4_))), (r3, .inl (cI, 8, .inl v5_)), (r4, .inl (cI, 8, .inl v6_)), (w4, .inl (cJ, 64, .inr (.inl v7_))), (w5, .inl (cJ, 64, .inr (.inl v8_))), (w6, .inl (cJ, 64, .inr (.inl v9_))), (w7, .inl (cJ, 64, .inr (.inl v10_)))]
set_option maxHeartbeats 4000000 in
set_option maxRecDepth 100000 in
theorem kf_X2_takeBit_4 (l : Launch) (D : va_G) (cI cJ cK : ClassId) (xr : Nat) (r1 : Nat) (r2 : Nat) (r3 : Nat) (r4 : Nat) (r5 : Nat) (w0 : Nat) (w1 : Nat) (w2 : Nat) (w3 : Nat) (w4 : Nat) (w5 : Nat) (w6 : Nat) (w7 : Nat) (rz : Nat) (rv : Nat) (rw : Int32) (rk : Int32) (ro : Nat → Int64) (rt : Nat → Int32) (rb : Nat → Int32) (wf4 : Nat → Int64) (wf5 : Nat → Int64) (wf6 : Nat → Int64) (wf7 : Nat → Int64) (O : Nat) (ru : Nat) (b : Nat) (F : Nat) (vg : Nat → Nat) (hz_rz : rz ≤ 64) (hz_rv : rv ≤ 8) (hb8 : b < 8) (hrt : rt 4 = nI b) (hO : O < 256) (hcd : tC (oS O) + 5 = rv) (hvr : ∀ c, c < 8 → oS O c = true → tV vg rz c) (hfw : rw = nI F) (hF : F ≤ 513) (hru : ru < F) (hru6 : ru ≤ 320) (hln : ∀ i, i < rz → wf4 i = lN (laN (vg i))) (hv8 : ∀ i, i < rz → vg i < 256) : ctV l yX2_takeBit wsX2_takeBit ({ frames := 8, cells := 0, slots := 0, locals := 480 } : Room) D (tyIJ cI cJ cK) [.ref xr, .int 4, .int (nI O), .int (nI ru)] (wl_kf_X2_takeBit_4 cI cJ cK xr r1 r2 r3 r4 r5 w0 w1 w2 w3 w4 w5 w6 w7 (nI rz) (nI rv) rw rk ro rt rb wf4 wf5 wf6 wf7) (fun (u : va_W) => ∃ (rw' : Int32) (rk' : Int32) (ro' : Nat → Int64) (rt' : Nat → Int32) (rb' : Nat → Int32) (wf5' : Nat → Int64) (wf6' : Nat → Int64) (wf7' : Nat → Int64), u = (wl_kf_X2_takeBit_4 cI cJ cK xr r1 r2 r3 r4 r5 w0 w1 w2 w3 w4 w5 w6 w7 (nI rz) (nI rv) rw' rk' ro' rt' rb' wf4 wf5' wf6' wf7') ∧ True ∧ rw' = nI (min F (ru + tT rz ((rv - 1) - 4) (tP vg b rz) (oS O)))) := by
  refine ctV.of (cc := cX2_takeBit) (maxL := 4) (ret := none) (by decide) rfl (Nat.le_of_ble_eq_true rfl) ?_
  intro p e s m below meth c ls A hx hb hr hts hown hml hlocks hname hA hK hN hP hD hS hl
  have hl : lv_has ls 4 [(0, .ref xr), (1, .int 4), (2, .int (nI O)), (3, .int (nI ru))] := hl
  have hown : s.vm.findClass RX2 = some m.cls := hown
  have hi2 : ∀ w ∈ u_ws RX2 TX2 9, w ∈ wsX2_takeBit := by decide +kernel
  have fl11 := hts (.fieldLink RX2 11 "PlaneColumn$OrderSearch" "lines" "[[J") (by decide +kernel)
  have fl20 := hts (.fieldLink RX2 20 "PlaneColumn$OrderSearch" "tried" "[I") (by decide +kernel)
  have fl24 := hts (.fieldLink RX2 24 "PlaneColumn$OrderSearch" "best" "[I") (by decide +kernel)
  have fl34 := hts (.fieldLink RX2 34 "PlaneColumn$OrderSearch" "variedCount" "I") (by decide +kernel)
  have fl37 := hts (.fieldLink RX2 37 "PlaneColumn$OrderSearch" "fewest" "I") (by decide +kernel)
  refine lv_iload_n hx hb dX2_takeBit_0 rfl (lv_at hl 2 rfl) ?_
  refine lv_if_ne (tgt := 29) hx hb dX2_takeBit_1 (by decide) (fun c1 => ?_) (fun c1 => ?_)
  ·
    have d1 : ((O : Nat) : Int) ≠ (0 : Int) := my_ne c1 (nI_toInt (by omega)) (by decide +kernel)
    refine lv_iload_n hx hb dX2_takeBit_29 rfl (lv_at hl 1 rfl) ?_
    refine lv_iconst (v := 1) hx hb dX2_takeBit_30 (by decide +kernel) ?_
    refine lv_iadd hx hb dX2_takeBit_31 ?_
    refine my_eqi (y := 5) (by decide +kernel) ?_
    refine lv_bipush (v := 8) hx hb dX2_takeBit_32 (by decide +kernel) ?_
    refine lv_icmp_ge (tgt := 70) hx hb dX2_takeBit_34 (by decide) (fun c34 => ?_) (fun c34 => ?_)
    ·
      exact absurd c34 (by decide +kernel)
    ·
      refine lv_aload_n hx hb dX2_takeBit_37 rfl (lv_at hl 0 rfl) ?_
      refine lv_aload_n hx hb dX2_takeBit_38 rfl (lv_at hl 0 rfl) ?_
      refine va_get (ci := 2) (v := .ref r1) (C := RX2) (T := TX2) (N := 9) hx hb hts hi2 hown hK hP 0 rfl rfl 0 (by decide) fl11 (fun _ h9 => h9) rfl dX2_takeBit_39 ?_
      refine lv_iload_n hx hb dX2_takeBit_42 rfl (lv_at hl 1 rfl) ?_
      refine my_aald hx hb hK hP 1 rfl (vp_in_nI (n := 4) (by omega) (by omega)) dX2_takeBit_43 ?_
      refine my_eqa (y := .ref w4) (by rw [show (4 : Int32).toNatClampNeg = 4 by decide +kernel]; rfl) ?_
      refine lv_aload_n hx hb dX2_takeBit_44 rfl (lv_at hl 0 rfl) ?_
      refine va_get (ci := 2) (v := .ref r1) (C := RX2) (T := TX2) (N := 9) hx hb hts hi2 hown hK hP 0 rfl rfl 0 (by decide) fl11 (fun _ h9 => h9) rfl dX2_takeBit_45 ?_
      refine lv_iload_n hx hb dX2_takeBit_48 rfl (lv_at hl 1 rfl) ?_
      refine lv_iconst (v := 1) hx hb dX2_takeBit_49 (by decide +kernel) ?_
      refine lv_iadd hx hb dX2_takeBit_50 ?_
      refine my_eqi (y := 5) (by decide +kernel) ?_
      refine my_aald hx hb hK hP 1 rfl (vp_in_nI (n := 5) (by omega) (by omega)) dX2_takeBit_51 ?_
      refine my_eqa (y := .ref w5) (by rw [show (5 : Int32).toNatClampNeg = 5 by decide +kernel]; rfl) ?_
      refine lv_aload_n hx hb dX2_takeBit_52 rfl (lv_at hl 0 rfl) ?_
      refine va_get (ci := 2) (v := .ref r3) (C := RX2) (T := TX2) (N := 9) hx hb hts hi2 hown hK hP 0 rfl rfl 2 (by decide) fl20 (fun _ h9 => h9) rfl dX2_takeBit_53 ?_
      refine lv_iload_n hx hb dX2_takeBit_56 rfl (lv_at hl 1 rfl) ?_
      refine va_iald hx hb hK hP 3 0 rfl rfl (vp_in_nI (n := 4) (by omega) (by omega)) dX2_takeBit_57 ?_
      refine my_eqi (y := nI b) ((congrArg rt (show (4 : Int32).toNatClampNeg = 4 by decide +kernel)).trans hrt) ?_
      refine my_goVS (wc := (wl_kf_X2_part cI cJ cK xr r1 r2 r3 r4 r5 w4 w5 (nI rz) (nI rv) rw rk ro wf4 wf5)) hP hD hS hA [0, 2, 5, 6] rfl [some 0, none, some 1, none, none, some 2, some 3] (by decide +kernel) (my_cV (As := [.ref w4, .ref w5, .int (nI b)]) (rest := []) (ci := 2) (wc := (wl_kf_X2_part cI cJ cK xr r1 r2 r3 r4 r5 w4 w5 (nI rz) (nI rv) rw rk ro wf4 wf5)) ⟨hx, hb, hml, hown, hts⟩ (cwV 3 hts gX2_takeBit_X2_part rfl rfl rfl (by decide +kernel) ⟨Nat.le_of_ble_eq_true rfl, Nat.le_of_ble_eq_true rfl⟩) hN hK hP hD [0, 2, 5, 6] rfl (by decide) rfl 0 rfl rfl rfl rfl hl.1 rfl (Nat.le_of_ble_eq_true rfl) dX2_takeBit_58 ⟨Nat.le_of_ble_eq_true rfl, Nat.le_of_ble_eq_true rfl⟩  ((kf_X2_part l D cI cJ cK xr r1 r2 r3 r4 r5 w4 w5 rz rv rw rk ro wf4 wf5 b vg (by first | assumption | omega | decide +kernel) (by first | assumption | omega | decide +kernel) (by first | assumption | omega | decide +kernel) (by first | assumption | omega | decide +kernel)) _)) (fun u H locs hp hPD hS => ?_)
      obtain ⟨ro_1, wfb_2, rfl, hpl, ht_3⟩ := hp
      obtain ⟨hP, hD⟩ := hPD rfl
      have hP : va_P D vwCl (wl_kf_X2_takeBit_4 cI cJ cK xr r1 r2 r3 r4 r5 w0 w1 w2 w3 w4 w5 w6 w7 (nI rz) (nI rv) rw rk ro_1 rt rb wf4 wfb_2 wf6 wf7) H := hP
      have hD : va_D A (wl_kf_X2_takeBit_4 cI cJ cK xr r1 r2 r3 r4 r5 w0 w1 w2 w3 w4 w5 w6 w7 (nI rz) (nI rv) rw rk ro_1 rt rb wf4 wfb_2 wf6 wf7) := hD
      refine lv_aload_n hx hb dX2_takeBit_61 rfl (lv_at hl 0 rfl) ?_
      refine lv_iload_n hx hb dX2_takeBit_62 rfl (lv_at hl 1 rfl) ?_
      refine lv_iconst (v := 1) hx hb dX2_takeBit_63 (by decide +kernel) ?_
      refine lv_iadd hx hb dX2_takeBit_64 ?_
      refine my_eqi (y := 5) (by decide +kernel) ?_
      refine lv_iload_n hx hb dX2_takeBit_65 rfl (lv_at hl 2 rfl) ?_
      refine lv_iload_n hx hb dX2_takeBit_66 rfl (lv_at hl 3 rfl) ?_
      refine my_goVS (wc := (wl_kf_X2_tryBits_5 cI cJ cK xr r1 r2 r3 r4 r5 w0 w1 w2 w3 w4 w5 w6 w7 (nI rz) (nI rv) rw rk ro_1 rt rb wfb_2 wf6 wf7)) hP hD hS hA [0, 1, 2, 3, 4, 6, 7, 8] rfl [some 0, some 1, some 2, some 3, some 4, none, some 5, some 6, some 7] (by decide +kernel) (my_cV (As := [.int 5, .int (nI O), .int (nI ru)]) (rest := []) (ci := 2) (wc := (wl_kf_X2_tryBits_5 cI cJ cK xr r1 r2 r3 r4 r5 w0 w1 w2 w3 w4 w5 w6 w7 (nI rz) (nI rv) rw rk ro_1 rt rb wfb_2 wf6 wf7)) ⟨hx, hb, hml, hown, hts⟩ (cwV 3 hts gX2_takeBit_X2_tryBits rfl rfl rfl (by decide +kernel) ⟨Nat.le_of_ble_eq_true rfl, Nat.le_of_ble_eq_true rfl⟩) hN hK hP hD [0, 1, 2, 3, 4, 6, 7, 8] rfl (by decide) rfl 0 rfl rfl rfl rfl hl.1 rfl (Nat.le_of_ble_eq_true rfl) dX2_takeBit_67 ⟨Nat.le_of_ble_eq_true rfl, Nat.le_of_ble_eq_true rfl⟩  ((kf_X2_tryBits_5 l D cI cJ cK xr r1 r2 r3 r4 r5 w0 w1 w2 w3 w4 w5 w6 w7 rz rv rw rk ro_1 rt rb wfb_2 wf6 wf7 O ru F (tP vg b rz) (by first | assumption | omega | decide +kernel) (by first | assumption | omega | decide +kernel) (by first | assumption | omega | decide +kernel) (by first | assumption | omega | decide +kernel) (by first | assumption | omega | decide +kernel) (by first | assumption | omega | decide +kernel) (hpl) (tP_8 hv8) (fun c hc hs => tV_p.mpr (hvr c hc hs)) (by first | assumption | omega | decide +kernel) (Or.inl (by have h9 := oS_pos hO (by omega); omega))) _)) (fun u H locs hp hPD hS => ?_)
      obtain ⟨rw_4, rk_5, ro_6, rt_7, rb_8, wf6_9, wf7_10, rfl, ht_11, hfw1⟩ := hp
      obtain ⟨hP, hD⟩ := hPD rfl
      have hP : va_P D vwCl (wl_kf_X2_takeBit_4 cI cJ cK xr r1 r2 r3 r4 r5 w0 w1 w2 w3 w4 w5 w6 w7 (nI rz) (nI rv) rw_4 rk_5 ro_6 rt_7 rb_8 wf4 wfb_2 wf6_9 wf7_10) H := hP
      have hD : va_D A (wl_kf_X2_takeBit_4 cI cJ cK xr r1 r2 r3 r4 r5 w0 w1 w2 w3 w4 w5 w6 w7 (nI rz) (nI rv) rw_4 rk_5 ro_6 rt_7 rb_8 wf4 wfb_2 wf6_9 wf7_10) := hD
      exact my_retV hx hb hr hlocks hK hS (wl_kf_X2_takeBit_4 cI cJ cK xr r1 r2 r3 r4 r5 w0 w1 w2 w3 w4 w5 w6 w7 (nI rz) (nI rv) rw_4 rk_5 ro_6 rt_7 rb_8 wf4 wfb_2 wf6_9 wf7_10) hP hD (⟨rw_4, rk_5, ro_6, rt_7, rb_8, wfb_2, wf6_9, wf7_10, rfl, (by first | assumption | omega | trivial | decide +kernel), (by first | exact tk_0 (by omega) (by omega) hru | (rw [show ((rv - 1) - 4) = rv - 5 from (by omega)]; exact hfw1) | (exfalso; have h9 := oS_pos hO (by omega); omega))⟩) dX2_takeBit_70
  ·
    have d1 : ((O : Nat) : Int) = (0 : Int) := my_eq c1 (nI_toInt (by omega)) (by decide +kernel)
    refine lv_aload_n hx hb dX2_takeBit_4 rfl (lv_at hl 0 rfl) ?_
    refine lv_iload_n hx hb dX2_takeBit_5 rfl (lv_at hl 3 rfl) ?_
    refine va_put (ci := 2) (v := .int (nI ru)) (ty := (.int)) (C := RX2) (T := TX2) (N := 9) hx hb hts hi2 tyX2 tyX2_ok nmX2 hown hK hP hD hS 0 rfl rfl 7 (by decide) fl37 (fun _ h9 => h9) rfl (by decide +kernel) rfl rfl (Nat.le_of_ble_eq_true rfl) dX2_takeBit_6 (fun H locs hP hD hS => ?_)
    have hP : va_P D vwCl (wl_kf_X2_takeBit_4 cI cJ cK xr r1 r2 r3 r4 r5 w0 w1 w2 w3 w4 w5 w6 w7 (nI rz) (nI rv) (nI ru) rk ro rt rb wf4 wf5 wf6 wf7) H := hP
    have hD : va_D A (wl_kf_X2_takeBit_4 cI cJ cK xr r1 r2 r3 r4 r5 w0 w1 w2 w3 w4 w5 w6 w7 (nI rz) (nI rv) (nI ru) rk ro rt rb wf4 wf5 wf6 wf7) := hD
    refine lv_aload_n hx hb dX2_takeBit_9 rfl (lv_at hl 0 rfl) ?_
    refine va_get (ci := 2) (v := .ref r3) (C := RX2) (T := TX2) (N := 9) hx hb hts hi2 hown hK hP 0 rfl rfl 2 (by decide) fl20 (fun _ h9 => h9) rfl dX2_takeBit_10 ?_
    refine lv_iconst (v := 0) hx hb dX2_takeBit_13 (by decide +kernel) ?_
    refine lv_aload_n hx hb dX2_takeBit_14 rfl (lv_at hl 0 rfl) ?_
    refine va_get (ci := 2) (v := .ref r4) (C := RX2) (T := TX2) (N := 9) hx hb hts hi2 hown hK hP 0 rfl rfl 3 (by decide) fl24 (fun _ h9 => h9) rfl dX2_takeBit_15 ?_
    refine lv_iconst (v := 0) hx hb dX2_takeBit_18 (by decide +kernel) ?_
    refine lv_aload_n hx hb dX2_takeBit_19 rfl (lv_at hl 0 rfl) ?_
    refine va_get (ci := 2) (v := .int (nI rv)) (C := RX2) (T := TX2) (N := 9) hx hb hts hi2 hown hK hP 0 rfl rfl 6 (by decide) fl34 (fun _ h9 => h9) rfl dX2_takeBit_20 ?_
    refine va_copyi hx hb (hml.trans hl.1.symm) hown (hts (.methodLink RX2 75 arraycopyName) (by decide +kernel)) (hts (.native arraycopyName) (by decide +kernel)) (hts (.static arraycopyName) (by decide +kernel)) (hts (.initialized "java/lang/System") (by decide +kernel)) hK hP hD hS 3 4 0 0 rfl rfl rfl rfl rfl (by decide +kernel) (by decide +kernel) (nI_nneg (by omega)) (by rw [show (0 : Int32).toNatClampNeg = 0 from (by decide +kernel), show (nI rv : Int32).toNatClampNeg = rv from (nI_clamp (by omega))]; omega) (by rw [show (0 : Int32).toNatClampNeg = 0 from (by decide +kernel), show (nI rv : Int32).toNatClampNeg = rv from (nI_clamp (by omega))]; omega) (fun _ _ => rfl) (Nat.le_of_ble_eq_true rfl) (Nat.le_of_ble_eq_true rfl) dX2_takeBit_23 (fun H locs hP hD hS => ?_)
    obtain ⟨g_12, eg_12⟩ : ∃ g : Nat → Int32, g = va_cpy rt rb 0 0 rv := ⟨_, rfl⟩
    have eU : va_cpy rt rb (0 : Int32).toNatClampNeg (0 : Int32).toNatClampNeg (nI rv : Int32).toNatClampNeg = g_12 := by rw [eg_12, show (0 : Int32).toNatClampNeg = 0 from (by decide +kernel), show (nI rv : Int32).toNatClampNeg = rv from (nI_clamp (by omega))]
    rw [eU] at hP hD
    have hP : va_P D vwCl (wl_kf_X2_takeBit_4 cI cJ cK xr r1 r2 r3 r4 r5 w0 w1 w2 w3 w4 w5 w6 w7 (nI rz) (nI rv) (nI ru) rk ro rt g_12 wf4 wf5 wf6 wf7) H := hP
    have hD : va_D A (wl_kf_X2_takeBit_4 cI cJ cK xr r1 r2 r3 r4 r5 w0 w1 w2 w3 w4 w5 w6 w7 (nI rz) (nI rv) (nI ru) rk ro rt g_12 wf4 wf5 wf6 wf7) := hD
    refine lv_goto (tgt := 70) hx hb dX2_takeBit_26 (by decide) ?_
    exact my_retV hx hb hr hlocks hK hS (wl_kf_X2_takeBit_4 cI cJ cK xr r1 r2 r3 r4 r5 w0 w1 w2 w3 w4 w5 w6 w7 (nI rz) (nI rv) (nI ru) rk ro rt g_12 wf4 wf5 wf6 wf7) hP hD (⟨(nI ru), rk, ro, rt, g_12, wf5, wf6, wf7, rfl, (by first | assumption | omega | trivial | decide +kernel), (by first | exact tk_0 (by omega) (by omega) hru | (rw [show ((rv - 1) - 4) = rv - 5 from (by omega)]; exact hfw1) | (exfalso; have h9 := oS_pos hO (by omega); omega))⟩) dX2_takeBit_70
abbrev wl_kf_X2_tryBits_4 (cI cJ cK : ClassId) (xr : Nat) (r1 : Nat) (r2 : Nat) (r3 : Nat) (r4 : Nat) (r5 : Nat) (w0 : Nat) (w1 : Nat) (w2 : Nat) (w3 : Nat) (w4 : Nat) (w5 : Nat) (w6 : Nat) (w7 : Nat) (v0_ : Int32) (v1_ : Int32) (v2_ : Int32) (v3_ : Int32) (v4_ : Nat → Int64) (v5_ : Nat → Int32) (v6_ : Nat → Int32) (v7_ : Nat → Int64) (v8_ : Nat → Int64) (v9_ : Nat → Int64) (v10_ : Nat → Int64) : va_W := [(xr, .inr (2, [.ref r1, .ref r2, .ref r3, .ref r4, .ref r5, .int v0_, .int v1_, .int v2_, .int v3_])), (r1, .inl (cK, 8, .inr (.inr (.inr (.inr (fun j => ([w0, w1, w2, w3, w4, w5, w6, w7] : List Nat)[j]?)))))), (r2, .inl (cJ, 64, .inr (.inl v4_))), (r3, .inl (cI, 8, .inl v5_)), (r4, .inl (cI, 8, .inl v6_)), (w4, .inl (cJ, 64, .inr (.inl v7_))), (w5, .inl (cJ, 64, .inr (.inl v8_))), (w6, .inl (cJ, 64, .inr (.inl v9_))), (w7, .inl (cJ, 64, .inr (.inl v10_)))]
set_option maxHeartbeats 4000000 in
set_option maxRecDepth 100000 in
theorem kf_X2_tryBits_4 (l : Launch) (D : va_G) (cI cJ cK : ClassId) (xr : Nat) (r1 : Nat) (r2 : Nat) (r3 : Nat) (r4 : Nat) (r5 : Nat) (w0 : Nat) (w1 : Nat) (w2 : Nat) (w3 : Nat) (w4 : Nat) (w5 : Nat) (w6 : Nat) (w7 : Nat) (rz : Nat) (rv : Nat) (rw : Int32) (rk : Int32) (ro : Nat → Int64) (rt : Nat → Int32) (rb : Nat → Int32) (wf4 : Nat → Int64) (wf5 : Nat → Int64) (wf6 : Nat → Int64) (wf7 : Nat → Int64) (O : Nat) (ra : Nat) (F : Nat) (vg : Nat → Nat) (hz_rz : rz ≤ 64) (hz_rv : rv ≤ 8) (hO : O < 256) (hra : ra ≤ 256) (hF : F ≤ 513) (hfw : rw = nI F) (hln : ∀ i, i < rz → wf4 i = lN (laN (vg i))) (hv8 : ∀ i, i < rz → vg i < 256) (hvr : ∀ c, c < 8 → oS O c = true → tV vg rz c) (hcd : tC (oS O) + 4 = rv) (hj0 : 4 < rv ∨ F = 0) : ctV l yX2_tryBits wsX2_tryBits ({ frames := 9, cells := 0, slots := 0, locals := 540 } : Room) D (tyIJ cI cJ cK) [.ref xr, .int 4, .int (nI O), .int (nI ra)] (wl_kf_X2_tryBits_4 cI cJ cK xr r1 r2 r3 r4 r5 w0 w1 w2 w3 w4 w5 w6 w7 (nI rz) (nI rv) rw rk ro rt rb wf4 wf5 wf6 wf7) (fun (u : va_W) => ∃ (rw' : Int32) (rk' : Int32) (ro' : Nat → Int64) (rt' : Nat → Int32) (rb' : Nat → Int32) (wf5' : Nat → Int64) (wf6' : Nat → Int64) (wf7' : Nat → Int64), u = (wl_kf_X2_tryBits_4 cI cJ cK xr r1 r2 r3 r4 r5 w0 w1 w2 w3 w4 w5 w6 w7 (nI rz) (nI rv) rw' rk' ro' rt' rb' wf4 wf5' wf6' wf7') ∧ True ∧ rw' = nI (min F (ra + tT rz (rv - 4) vg (oS O)))) := by
  refine ctV.of (cc := cX2_tryBits) (maxL := 9) (ret := none) (by decide) rfl (Nat.le_of_ble_eq_true rfl) ?_
  intro p e s m below meth c ls A hx hb hr hts hown hml hlocks hname hA hK hN hP hD hS hl
  have hl : lv_has ls 9 [(0, .ref xr), (1, .int 4), (2, .int (nI O)), (3, .int (nI ra))] := hl
  have hown : s.vm.findClass RX2 = some m.cls := hown
  have hi2 : ∀ w ∈ u_ws RX2 TX2 9, w ∈ wsX2_tryBits := by decide +kernel
  have fl11 := hts (.fieldLink RX2 11 "PlaneColumn$OrderSearch" "lines" "[[J") (by decide +kernel)
  have fl20 := hts (.fieldLink RX2 20 "PlaneColumn$OrderSearch" "tried" "[I") (by decide +kernel)
  have fl34 := hts (.fieldLink RX2 34 "PlaneColumn$OrderSearch" "variedCount" "I") (by decide +kernel)
  have fl37 := hts (.fieldLink RX2 37 "PlaneColumn$OrderSearch" "fewest" "I") (by decide +kernel)
  refine lv_iload_n hx hb dX2_tryBits_0 rfl (lv_at hl 1 rfl) ?_
  refine lv_aload_n hx hb dX2_tryBits_1 rfl (lv_at hl 0 rfl) ?_
  refine va_get (ci := 2) (v := .int (nI rv)) (C := RX2) (T := TX2) (N := 9) hx hb hts hi2 hown hK hP 0 rfl rfl 6 (by decide) fl34 (fun _ h9 => h9) rfl dX2_tryBits_2 ?_
  refine lv_icmp_ge (tgt := 14) hx hb dX2_tryBits_5 (by decide) (fun c5 => ?_) (fun c5 => ?_)
  ·
    have d5 : (4 : Int) ≥ ((rv : Nat) : Int) := my_ge c5 (by decide +kernel) (nI_toInt (by omega))
    exact my_retV hx hb hr hlocks hK hS (wl_kf_X2_tryBits_4 cI cJ cK xr r1 r2 r3 r4 r5 w0 w1 w2 w3 w4 w5 w6 w7 (nI rz) (nI rv) rw rk ro rt rb wf4 wf5 wf6 wf7) hP hD (⟨rw, rk, ro, rt, rb, wf5, wf6, wf7, rfl, (by first | assumption | omega | trivial | decide +kernel), (by first | exact tc_end hfw2 (by omega) (by omega) | exact tc_no hfw (by omega))⟩) dX2_tryBits_14
  ·
    have d5 : (4 : Int) < ((rv : Nat) : Int) := my_nge c5 (by decide +kernel) (nI_toInt (by omega))
    refine lv_iload_n hx hb dX2_tryBits_8 rfl (lv_at hl 1 rfl) ?_
    refine lv_bipush (v := 8) hx hb dX2_tryBits_9 (by decide +kernel) ?_
    refine lv_icmp_lt (tgt := 15) hx hb dX2_tryBits_11 (by decide) (fun c11 => ?_) (fun c11 => ?_)
    ·
      refine lv_aload_n hx hb dX2_tryBits_15 rfl (lv_at hl 0 rfl) ?_
      refine lv_aload_n hx hb dX2_tryBits_16 rfl (lv_at hl 0 rfl) ?_
      refine va_get (ci := 2) (v := .ref r1) (C := RX2) (T := TX2) (N := 9) hx hb hts hi2 hown hK hP 0 rfl rfl 0 (by decide) fl11 (fun _ h9 => h9) rfl dX2_tryBits_17 ?_
      refine lv_iload_n hx hb dX2_tryBits_20 rfl (lv_at hl 1 rfl) ?_
      refine my_aald hx hb hK hP 1 rfl (vp_in_nI (n := 4) (by omega) (by omega)) dX2_tryBits_21 ?_
      refine my_eqa (y := .ref w4) (by rw [show (4 : Int32).toNatClampNeg = 4 by decide +kernel]; rfl) ?_
      refine my_gpL (my_pV (As := [.ref w4]) (rest := []) (ci := 2) ⟨hx, hb, hml, hown, hts⟩ (cwV 1 hts gX2_tryBits_X2_changesOf rfl rfl rfl (by decide +kernel) ⟨Nat.le_of_ble_eq_true rfl, Nat.le_of_ble_eq_true rfl⟩) hN hK hP [0, 5] rfl 0 rfl rfl rfl rfl hl.1 rfl (Nat.le_of_ble_eq_true rfl) dX2_tryBits_22 ⟨Nat.le_of_ble_eq_true rfl, Nat.le_of_ble_eq_true rfl⟩  (kf_X2_changesOf l D cI cJ cK xr r1 r2 r3 r4 r5 w4 rz rv rw rk wf4 vg (by first | assumption | omega | decide +kernel) (by first | assumption | omega | decide +kernel) (by first | assumption | omega | decide +kernel) (by first | assumption | omega | decide +kernel))) (fun r hp => ?_)
      obtain ⟨c_1, rfl, hcc, ht_2⟩ := hp
      refine lv_lstore (lv' := [(4, .long (lN c_1)), (0, .ref xr), (1, .int 4), (2, .int (nI O)), (3, .int (nI ra))]) hx hb dX2_tryBits_25 hl (by decide) rfl (fun ls hl => ?_)
      refine lv_iconst (v := 2) hx hb dX2_tryBits_27 (by decide +kernel) ?_
      refine lv_aload_n hx hb dX2_tryBits_28 rfl (lv_at hl 1 rfl) ?_
      refine va_get (ci := 2) (v := .int (nI rv)) (C := RX2) (T := TX2) (N := 9) hx hb hts hi2 hown hK hP 0 rfl rfl 6 (by decide) fl34 (fun _ h9 => h9) rfl dX2_tryBits_29 ?_
      refine lv_iconst (v := 1) hx hb dX2_tryBits_32 (by decide +kernel) ?_
      refine lv_isub hx hb dX2_tryBits_33 ?_
      refine my_eqi (y := nI (rv - 1)) (my_subN (a := rv) (b := 1) (by omega)) ?_
      refine lv_iload_n hx hb dX2_tryBits_34 rfl (lv_at hl 2 rfl) ?_
      refine lv_isub hx hb dX2_tryBits_35 ?_
      refine my_eqi (y := nI ((rv - 1) - 4)) (my_subN (a := rv - 1) (b := 4) (by omega)) ?_
      refine lv_imul hx hb dX2_tryBits_36 ?_
      refine my_eqi (y := nI (2 * ((rv - 1) - 4))) (my_mulN _ _) ?_
      refine lv_istore (lv' := [(6, .int (nI (2 * ((rv - 1) - 4)))), (4, .long (lN c_1)), (0, .ref xr), (1, .int 4), (2, .int (nI O)), (3, .int (nI ra))]) hx hb dX2_tryBits_37 hl (by decide) rfl (fun ls hl => ?_)
      refine lv_bipush (v := 7) hx hb dX2_tryBits_39 (by decide +kernel) ?_
      refine lv_istore (lv' := [(7, .int 7), (6, .int (nI (2 * ((rv - 1) - 4)))), (4, .long (lN c_1)), (0, .ref xr), (1, .int 4), (2, .int (nI O)), (3, .int (nI ra))]) hx hb dX2_tryBits_41 hl (by decide) rfl (fun ls hl => ?_)
      have loop43 : ∀ (n9 : Nat) (x : Int32) (xr_fewest_43 : Int32) (xr_known_43 : Int32) (r2_43 : Nat → Int64) (r3_43 : Nat → Int32) (r4_43 : Nat → Int32) (w5_43 : Nat → Int64) (w6_43 : Nat → Int64) (w7_43 : Nat → Int64), (x.toInt + 1).toNat < n9 → (-1 ≤ x.toInt) → (x.toInt ≤ 7) → (xr_fewest_43 = nI (min F (ra + tM (tF rz ((rv - 1) - 4) vg (oS O)) (oS O) (7 - x.toInt).toNat))) → ∀ (H : Heap) (locs : List Loc) (ls : Array Slot), va_P D vwCl (wl_kf_X2_tryBits_4 cI cJ cK xr r1 r2 r3 r4 r5 w0 w1 w2 w3 w4 w5 w6 w7 (nI rz) (nI rv) xr_fewest_43 xr_known_43 r2_43 r3_43 r4_43 wf4 w5_43 w6_43 w7_43) H → va_D A (wl_kf_X2_tryBits_4 cI cJ cK xr r1 r2 r3 r4 r5 w0 w1 w2 w3 w4 w5 w6 w7 (nI rz) (nI rv) xr_fewest_43 xr_known_43 r2_43 r3_43 r4_43 wf4 w5_43 w6_43 w7_43) → va_S A s.heap H locs → lv_has ls 9 [(7, .int x), (6, .int (nI (2 * ((rv - 1) - 4)))), (4, .long (lN c_1)), (0, .ref xr), (1, .int 4), (2, .int (nI O)), (3, .int (nI ra))] → W p l e ({ frames := 9, cells := 0, slots := 0, locals := 540 } : Room) s m [.ref xr, .int 4, .int (nI O), .int (nI ra)].toArray below meth c H locs 0 0 (MQ below (va_Qv (fun (u : va_W) => ∃ (rw' : Int32) (rk' : Int32) (ro' : Nat → Int64) (rt' : Nat → Int32) (rb' : Nat → Int32) (wf5' : Nat → Int64) (wf6' : Nat → Int64) (wf7' : Nat → Int64), u = (wl_kf_X2_tryBits_4 cI cJ cK xr r1 r2 r3 r4 r5 w0 w1 w2 w3 w4 w5 w6 w7 (nI rz) (nI rv) rw' rk' ro' rt' rb' wf4 wf5' wf6' wf7') ∧ True ∧ rw' = nI (min F (ra + tT rz (rv - 4) vg (oS O)))) (my_B D (tyIJ cI cJ cK) A) A) [.ref xr, .int 4, .int (nI O), .int (nI ra)].toArray s 0 0 A) (F0 m 43 ls []) := by
        intro n9
        induction n9 with
        | zero =>
          intro x xr_fewest_43 xr_known_43 r2_43 r3_43 r4_43 w5_43 w6_43 w7_43 hn9
          exact absurd hn9 (Nat.not_lt_zero _)
        | succ n9 ih43 =>
          intro x xr_fewest_43 xr_known_43 r2_43 r3_43 r4_43 w5_43 w6_43 w7_43 hn9 hx0 hx1 hfw2 H locs ls hP hD hS hl
          have hfi : xr_fewest_43.toInt = (((min F (ra + tM (tF rz ((rv - 1) - 4) vg (oS O)) (oS O) (7 - x.toInt).toNat)) : Nat) : Int) := by rw [hfw2]; exact nI_toInt (by omega)
          refine lv_iload hx hb dX2_tryBits_43 (lv_at hl 0 rfl) ?_
          refine lv_if_lt (tgt := 117) hx hb dX2_tryBits_45 (by decide) (fun c45 => ?_) (fun c45 => ?_)
          ·
            have d45 : x.toInt < (0 : Int) := my_lt c45 rfl (by decide +kernel)
            exact my_retV hx hb hr hlocks hK hS (wl_kf_X2_tryBits_4 cI cJ cK xr r1 r2 r3 r4 r5 w0 w1 w2 w3 w4 w5 w6 w7 (nI rz) (nI rv) xr_fewest_43 xr_known_43 r2_43 r3_43 r4_43 wf4 w5_43 w6_43 w7_43) hP hD (⟨xr_fewest_43, xr_known_43, r2_43, r3_43, r4_43, w5_43, w6_43, w7_43, rfl, (by first | assumption | omega | trivial | decide +kernel), (by first | exact tc_end hfw2 (by omega) (by omega) | exact tc_no hfw (by omega))⟩) dX2_tryBits_117
          ·
            have d45 : x.toInt ≥ (0 : Int) := my_nlt c45 rfl (by decide +kernel)
            obtain ⟨w_3, rfl, hw_3⟩ := my_natP (x := x) (by omega)
            refine lv_iload_n hx hb dX2_tryBits_48 rfl (lv_at hl 6 rfl) ?_
            refine lv_iconst (v := 1) hx hb dX2_tryBits_49 (by decide +kernel) ?_
            refine lv_iadd hx hb dX2_tryBits_50 ?_
            refine my_eqi (y := nI (ra + 1)) (my_addN ra 1) ?_
            refine lv_lload hx hb dX2_tryBits_51 (lv_at hl 2 rfl) ?_
            refine lv_bipush (v := 8) hx hb dX2_tryBits_53 (by decide +kernel) ?_
            refine lv_iload hx hb dX2_tryBits_55 (lv_at hl 0 rfl) ?_
            refine lv_imul hx hb dX2_tryBits_57 ?_
            refine my_eqi (y := nI (8 * w_3)) (my_mulN _ _) ?_
            have hclt : c_1 < 18446744073709551616 := by rw [hcc]; exact chS_lt vg hz_rz
            refine lv_lushr (v := lN (c_1 / 256 ^ w_3)) hx hb dX2_tryBits_58 (ush_8 hclt (by omega)) ?_
            refine lv_ldc2 (v := 255) hx hb hown (hts (.constantLong RX2 70 (255)) (by decide +kernel)) dX2_tryBits_59 ?_
            refine lv_land hx hb dX2_tryBits_62 ?_
            refine my_eql (y := lN (c_1 / 256 ^ w_3 % 256)) (and_255 (Nat.lt_of_le_of_lt (Nat.div_le_self _ _) hclt)) ?_
            refine lv_l2i (v := nI (c_1 / 256 ^ w_3 % 256)) hx hb dX2_tryBits_63 (l2i_N (by omega)) ?_
            refine lv_iadd hx hb dX2_tryBits_64 ?_
            refine my_eqi (y := nI (ra + 1 + c_1 / 256 ^ w_3 % 256)) (nI_add _ _) ?_
            refine lv_istore (lv' := [(8, .int (nI (ra + 1 + c_1 / 256 ^ w_3 % 256))), (7, .int (nI w_3)), (6, .int (nI (2 * ((rv - 1) - 4)))), (4, .long (lN c_1)), (0, .ref xr), (1, .int 4), (2, .int (nI O)), (3, .int (nI ra))]) hx hb dX2_tryBits_65 hl (by decide) rfl (fun ls hl => ?_)
            refine lv_iload_n hx hb dX2_tryBits_67 rfl (lv_at hl 6 rfl) ?_
            refine lv_iload hx hb dX2_tryBits_68 (lv_at hl 1 rfl) ?_
            refine lv_ishr hx hb dX2_tryBits_70 ?_
            refine my_eqi (y := nI (O / 2 ^ w_3)) (my_shrG (by omega) (by omega)) ?_
            refine lv_iconst (v := 1) hx hb dX2_tryBits_71 (by decide +kernel) ?_
            refine lv_iand hx hb dX2_tryBits_72 ?_
            refine my_eqi (y := nI ((O / 2 ^ w_3) % 2)) (my_maskN _ 1) ?_
            refine lv_if_eq (tgt := 111) hx hb dX2_tryBits_73 (by decide) (fun c73 => ?_) (fun c73 => ?_)
            ·
              have d73 : (((O / 2 ^ w_3) % 2 : Nat) : Int) = (0 : Int) := my_eq c73 (nI_toInt (by omega)) (by decide +kernel)
              obtain ⟨z_4, ez_4⟩ : ∃ y : Int32, y = nI w_3 + (-1) := ⟨_, rfl⟩
              try have tz_4 : z_4.toInt = ((w_3 : Nat) : Int) + (-1) := by rw [ez_4]; exact my_addI (nI_toInt (by omega)) (by decide +kernel) (by omega) (by omega)
              refine lv_iinc (v := z_4) (lv' := [(7, .int z_4), (8, .int (nI (ra + 1 + c_1 / 256 ^ w_3 % 256))), (6, .int (nI (2 * ((rv - 1) - 4)))), (4, .long (lN c_1)), (0, .ref xr), (1, .int 4), (2, .int (nI O)), (3, .int (nI ra))]) hx hb dX2_tryBits_111 hl (k := 1) rfl (by rw [ez_4]; rfl) (by decide) rfl (fun ls hl => ?_)
              refine lv_goto (tgt := 43) hx hb dX2_tryBits_114 (by decide) ?_
              exact ih43  z_4 xr_fewest_43 xr_known_43 r2_43 r3_43 r4_43 w5_43 w6_43 w7_43 (by omega) (by first | assumption | omega | decide +kernel) (by first | assumption | omega | decide +kernel) (by first | exact tc_skip hfw2 (by omega) (by omega) (by omega) (os_f d73 (by omega)) | exact tc_bound hfw2 (by omega) (by omega) (by omega) (os_t d73 (by omega)) (by omega) | exact tc_done hfw1 (by omega) (by omega) (by omega) (os_t d73 (by omega)) (rm_G hO (by omega) hbt hru9 (by omega))) _ _ ls hP hD hS (lv_sub hl [0, 2, 3, 4, 5, 6, 7] rfl)
            ·
              have d73 : (((O / 2 ^ w_3) % 2 : Nat) : Int) ≠ (0 : Int) := my_ne c73 (nI_toInt (by omega)) (by decide +kernel)
              have hbt : Nat.testBit O w_3 = true := bN_t (by rw [← bn_tb]; omega)
              have hrz : 0 < rz := by obtain ⟨i9, hi9, -⟩ := hvr w_3 (by omega) hbt; omega
              have hru9 : ra + 1 + c_1 / 256 ^ w_3 % 256 = ra + rnF (tB vg w_3) rz := by rw [hcc, chS_at (by omega) hz_rz, tG_rn hrz]; omega
              have hrl := rnF_le (tB vg w_3) rz
              have hlb : rnF (tB vg w_3) rz + 2 * ((rv - 1) - 4) ≤ (tF rz ((rv - 1) - 4) vg (oS O)) (nI w_3).toInt.toNat := by rw [show (nI w_3).toInt.toNat = w_3 from (by omega)]; exact th_lb (by omega) hvr
              refine lv_iload hx hb dX2_tryBits_76 (lv_at hl 0 rfl) ?_
              refine lv_iload hx hb dX2_tryBits_78 (lv_at hl 2 rfl) ?_
              refine lv_iadd hx hb dX2_tryBits_80 ?_
              refine my_eqi (y := nI (ra + 1 + c_1 / 256 ^ w_3 % 256 + (2 * ((rv - 1) - 4)))) (nI_add _ _) ?_
              refine lv_aload_n hx hb dX2_tryBits_81 rfl (lv_at hl 4 rfl) ?_
              refine va_get (ci := 2) (v := .int xr_fewest_43) (C := RX2) (T := TX2) (N := 9) hx hb hts hi2 hown hK hP 0 rfl rfl 7 (by decide) fl37 (fun _ h9 => h9) rfl dX2_tryBits_82 ?_
              refine lv_icmp_ge (tgt := 111) hx hb dX2_tryBits_85 (by decide) (fun c85 => ?_) (fun c85 => ?_)
              ·
                have d85 : ((ra + 1 + c_1 / 256 ^ w_3 % 256 + (2 * ((rv - 1) - 4)) : Nat) : Int) ≥ xr_fewest_43.toInt := my_ge c85 (nI_toInt (by omega)) rfl
                obtain ⟨z_5, ez_5⟩ : ∃ y : Int32, y = nI w_3 + (-1) := ⟨_, rfl⟩
                try have tz_5 : z_5.toInt = ((w_3 : Nat) : Int) + (-1) := by rw [ez_5]; exact my_addI (nI_toInt (by omega)) (by decide +kernel) (by omega) (by omega)
                refine lv_iinc (v := z_5) (lv' := [(7, .int z_5), (8, .int (nI (ra + 1 + c_1 / 256 ^ w_3 % 256))), (6, .int (nI (2 * ((rv - 1) - 4)))), (4, .long (lN c_1)), (0, .ref xr), (1, .int 4), (2, .int (nI O)), (3, .int (nI ra))]) hx hb dX2_tryBits_111 hl (k := 1) rfl (by rw [ez_5]; rfl) (by decide) rfl (fun ls hl => ?_)
                refine lv_goto (tgt := 43) hx hb dX2_tryBits_114 (by decide) ?_
                exact ih43  z_5 xr_fewest_43 xr_known_43 r2_43 r3_43 r4_43 w5_43 w6_43 w7_43 (by omega) (by first | assumption | omega | decide +kernel) (by first | assumption | omega | decide +kernel) (by first | exact tc_skip hfw2 (by omega) (by omega) (by omega) (os_f d73 (by omega)) | exact tc_bound hfw2 (by omega) (by omega) (by omega) (os_t d73 (by omega)) (by omega) | exact tc_done hfw1 (by omega) (by omega) (by omega) (os_t d73 (by omega)) (rm_G hO (by omega) hbt hru9 (by omega))) _ _ ls hP hD hS (lv_sub hl [0, 2, 3, 4, 5, 6, 7] rfl)
              ·
                have d85 : ((ra + 1 + c_1 / 256 ^ w_3 % 256 + (2 * ((rv - 1) - 4)) : Nat) : Int) < xr_fewest_43.toInt := my_nge c85 (nI_toInt (by omega)) rfl
                refine lv_aload_n hx hb dX2_tryBits_88 rfl (lv_at hl 4 rfl) ?_
                refine va_get (ci := 2) (v := .ref r3) (C := RX2) (T := TX2) (N := 9) hx hb hts hi2 hown hK hP 0 rfl rfl 2 (by decide) fl20 (fun _ h9 => h9) rfl dX2_tryBits_89 ?_
                refine lv_iload_n hx hb dX2_tryBits_92 rfl (lv_at hl 5 rfl) ?_
                refine lv_iload hx hb dX2_tryBits_93 (lv_at hl 1 rfl) ?_
                refine va_iast hx hb hK hP hD hS 3 0 rfl rfl (vp_in_nI (n := 4) (by omega) (by omega)) dX2_tryBits_95 (fun H locs hP hD hS => ?_)
                obtain ⟨g_6, eg_6⟩ : ∃ g : Nat → Int32, g = upd r3_43 4 (nI w_3) := ⟨_, rfl⟩
                have eU : upd r3_43 (4 : Int32).toNatClampNeg (nI w_3) = g_6 := by rw [eg_6, show (4 : Int32).toNatClampNeg = 4 from by decide +kernel]
                rw [eU] at hP hD
                have hP : va_P D vwCl (wl_kf_X2_tryBits_4 cI cJ cK xr r1 r2 r3 r4 r5 w0 w1 w2 w3 w4 w5 w6 w7 (nI rz) (nI rv) xr_fewest_43 xr_known_43 r2_43 g_6 r4_43 wf4 w5_43 w6_43 w7_43) H := hP
                have hD : va_D A (wl_kf_X2_tryBits_4 cI cJ cK xr r1 r2 r3 r4 r5 w0 w1 w2 w3 w4 w5 w6 w7 (nI rz) (nI rv) xr_fewest_43 xr_known_43 r2_43 g_6 r4_43 wf4 w5_43 w6_43 w7_43) := hD
                refine lv_aload_n hx hb dX2_tryBits_96 rfl (lv_at hl 4 rfl) ?_
                refine lv_iload_n hx hb dX2_tryBits_97 rfl (lv_at hl 5 rfl) ?_
                refine lv_iload_n hx hb dX2_tryBits_98 rfl (lv_at hl 6 rfl) ?_
                refine lv_iconst (v := 1) hx hb dX2_tryBits_99 (by decide +kernel) ?_
                refine lv_iload hx hb dX2_tryBits_100 (lv_at hl 1 rfl) ?_
                refine lv_ishl hx hb dX2_tryBits_102 ?_
                refine my_eqi (y := nI (2 ^ w_3)) (my_shl1 (by omega)) ?_
                refine lv_iconst (v := (-1)) hx hb dX2_tryBits_103 (by decide +kernel) ?_
                refine lv_ixor hx hb dX2_tryBits_104 ?_
                refine my_eqi (y := (nI (2 ^ w_3) ^^^ (-1))) (rfl) ?_
                refine lv_iand hx hb dX2_tryBits_105 ?_
                refine my_eqi (y := nI (O - 2 ^ w_3)) ((rm_b O hO _ (by omega) hbt).1) ?_
                refine lv_iload hx hb dX2_tryBits_106 (lv_at hl 0 rfl) ?_
                refine my_goVS (wc := (wl_kf_X2_takeBit_4 cI cJ cK xr r1 r2 r3 r4 r5 w0 w1 w2 w3 w4 w5 w6 w7 (nI rz) (nI rv) xr_fewest_43 xr_known_43 r2_43 g_6 r4_43 wf4 w5_43 w6_43 w7_43)) hP hD hS hA [0, 1, 2, 3, 4, 5, 6, 7, 8] rfl [some 0, some 1, some 2, some 3, some 4, some 5, some 6, some 7, some 8] (by decide +kernel) (my_cV (As := [.int 4, .int (nI (O - 2 ^ w_3)), .int (nI (ra + 1 + c_1 / 256 ^ w_3 % 256))]) (rest := []) (ci := 2) (wc := (wl_kf_X2_takeBit_4 cI cJ cK xr r1 r2 r3 r4 r5 w0 w1 w2 w3 w4 w5 w6 w7 (nI rz) (nI rv) xr_fewest_43 xr_known_43 r2_43 g_6 r4_43 wf4 w5_43 w6_43 w7_43)) ⟨hx, hb, hml, hown, hts⟩ (cwV 3 hts gX2_tryBits_X2_takeBit rfl rfl rfl (by decide +kernel) ⟨Nat.le_of_ble_eq_true rfl, Nat.le_of_ble_eq_true rfl⟩) hN hK hP hD [0, 1, 2, 3, 4, 5, 6, 7, 8] rfl (by decide) rfl 0 rfl rfl rfl rfl hl.1 rfl (Nat.le_of_ble_eq_true rfl) dX2_tryBits_108 ⟨Nat.le_of_ble_eq_true rfl, Nat.le_of_ble_eq_true rfl⟩  ((kf_X2_takeBit_4 l D cI cJ cK xr r1 r2 r3 r4 r5 w0 w1 w2 w3 w4 w5 w6 w7 rz rv xr_fewest_43 xr_known_43 r2_43 g_6 r4_43 wf4 w5_43 w6_43 w7_43 (O - 2 ^ w_3) (ra + 1 + c_1 / 256 ^ w_3 % 256) w_3 (min F (ra + tM (tF rz ((rv - 1) - 4) vg (oS O)) (oS O) (7 - (nI w_3).toInt).toNat)) vg (by first | assumption | omega | decide +kernel) (by first | assumption | omega | decide +kernel) (by first | assumption | omega | decide +kernel) (us_at (by assumption)) ((rm_b O hO _ (by omega) hbt).2.1) (by have h9 := rm_c hO (by omega) hbt; omega) (rm_v hO (by omega) hbt hvr) (hfw2) (by first | assumption | omega | decide +kernel) (by first | assumption | omega | decide +kernel) (by first | assumption | omega | decide +kernel) (by first | assumption | omega | decide +kernel) (by first | assumption | omega | decide +kernel)) _)) (fun u H locs hp hPD hS => ?_)
                obtain ⟨rw_7, rk_8, ro_9, rt_10, rb_11, wf5_12, wf6_13, wf7_14, rfl, ht_15, hfw1⟩ := hp
                obtain ⟨hP, hD⟩ := hPD rfl
                have hP : va_P D vwCl (wl_kf_X2_tryBits_4 cI cJ cK xr r1 r2 r3 r4 r5 w0 w1 w2 w3 w4 w5 w6 w7 (nI rz) (nI rv) rw_7 rk_8 ro_9 rt_10 rb_11 wf4 wf5_12 wf6_13 wf7_14) H := hP
                have hD : va_D A (wl_kf_X2_tryBits_4 cI cJ cK xr r1 r2 r3 r4 r5 w0 w1 w2 w3 w4 w5 w6 w7 (nI rz) (nI rv) rw_7 rk_8 ro_9 rt_10 rb_11 wf4 wf5_12 wf6_13 wf7_14) := hD
                obtain ⟨z_16, ez_16⟩ : ∃ y : Int32, y = nI w_3 + (-1) := ⟨_, rfl⟩
                try have tz_16 : z_16.toInt = ((w_3 : Nat) : Int) + (-1) := by rw [ez_16]; exact my_addI (nI_toInt (by omega)) (by decide +kernel) (by omega) (by omega)
                refine lv_iinc (v := z_16) (lv' := [(7, .int z_16), (8, .int (nI (ra + 1 + c_1 / 256 ^ w_3 % 256))), (6, .int (nI (2 * ((rv - 1) - 4)))), (4, .long (lN c_1)), (0, .ref xr), (1, .int 4), (2, .int (nI O)), (3, .int (nI ra))]) hx hb dX2_tryBits_111 hl (k := 1) rfl (by rw [ez_16]; rfl) (by decide) rfl (fun ls hl => ?_)
                refine lv_goto (tgt := 43) hx hb dX2_tryBits_114 (by decide) ?_
                exact ih43  z_16 rw_7 rk_8 ro_9 rt_10 rb_11 wf5_12 wf6_13 wf7_14 (by omega) (by first | assumption | omega | decide +kernel) (by first | assumption | omega | decide +kernel) (by first | exact tc_skip hfw2 (by omega) (by omega) (by omega) (os_f d73 (by omega)) | exact tc_bound hfw2 (by omega) (by omega) (by omega) (os_t d73 (by omega)) (by omega) | exact tc_done hfw1 (by omega) (by omega) (by omega) (os_t d73 (by omega)) (rm_G hO (by omega) hbt hru9 (by omega))) _ _ ls hP hD hS (lv_sub hl [0, 2, 3, 4, 5, 6, 7] rfl)
      have ec_17 : (7 : Int32).toInt = 7 := by decide +kernel
      exact loop43 ((((7 : Int32).toInt + 1).toNat) + 1) (7 : Int32) rw rk ro rt rb wf5 wf6 wf7 (Nat.lt_succ_self _) (by first | assumption | omega | decide +kernel) (by first | assumption | omega | decide +kernel) (tc_0 hfw hF) _ _ ls hP hD hS (lv_sub hl [0, 1, 2, 3, 4, 5, 6] rfl)
    ·
      exact absurd c11 (by decide +kernel)
abbrev wl_kf_X2_takeBit_3 (cI cJ cK : ClassId) (xr : Nat) (r1 : Nat) (r2 : Nat) (r3 : Nat) (r4 : Nat) (r5 : Nat) (w0 : Nat) (w1 : Nat) (w2 : Nat) (w3 : Nat) (w4 : Nat) (w5 : Nat) (w6 : Nat) (w7 : Nat) (v0_ : Int32) (v1_ : Int32) (v2_ : Int32) (v3_ : Int32) (v4_ : Nat → Int64) (v5_ : Nat → Int32) (v6_ : Nat → Int32) (v7_ : Nat → Int64) (v8_ : Nat → Int64) (v9_ : Nat → Int64) (v10_ : Nat → Int64) (v11_ : Nat → Int64) : va_W := [(xr, .inr (2, [.ref r1, .ref r2, .ref r3, .ref r4, .ref r5, .int v0_, .int v1_, .int v2_, .int v3_])), (r1, .inl (cK, 8, .inr (.inr (.inr (.inr (fun j => ([w0, w1, w2, w3, w4, w5, w6, w7] : List Nat)[j]?)))))), (r2, .inl (cJ, 64, .inr (.inl v4_))), (r3, .inl (cI, 8, .inl v5_)), (r4, .inl (cI, 8, .inl v6_)), (w3, .inl (cJ, 64, .inr (.inl v7_))), (w4, .inl (cJ, 64, .inr (.inl v8_))), (w5, .inl (cJ, 64, .inr (.inl v9_))), (w6, .inl (cJ, 64, .inr (.inl v10_))), (w7, .inl (cJ, 64, .inr (.inl v11_)))]
set_option maxHeartbeats 4000000 in
set_option maxRecDepth 100000 in
theorem kf_X2_takeBit_3 (l : Launch) (D : va_G) (cI cJ cK : ClassId) (xr : Nat) (r1 : Nat) (r2 : Nat) (r3 : Nat) (r4 : Nat) (r5 : Nat) (w0 : Nat) (w1 : Nat) (w2 : Nat) (w3 : Nat) (w4 : Nat) (w5 : Nat) (w6 : Nat) (w7 : Nat) (rz : Nat) (rv : Nat) (rw : Int32) (rk : Int32) (ro : Nat → Int64) (rt : Nat → Int32) (rb : Nat → Int32) (wf3 : Nat → Int64) (wf4 : Nat → Int64) (wf5 : Nat → Int64) (wf6 : Nat → Int64) (wf7 : Nat → Int64) (O : Nat) (ru : Nat) (b : Nat) (F : Nat) (vg : Nat → Nat) (hz_rz : rz ≤ 64) (hz_rv : rv ≤ 8) (hb8 : b < 8) (hrt : rt 3 = nI b) (hO : O < 256) (hcd : tC (oS O) + 4 = rv) (hvr : ∀ c, c < 8 → oS O c = true → tV vg rz c) (hfw : rw = nI F) (hF : F ≤ 513) (hru : ru < F) (hru6 : ru ≤ 256) (hln : ∀ i, i < rz → wf3 i = lN (laN (vg i))) (hv8 : ∀ i, i < rz → vg i < 256) : ctV l yX2_takeBit wsX2_takeBit ({ frames := 10, cells := 0, slots := 0, locals := 600 } : Room) D (tyIJ cI cJ cK) [.ref xr, .int 3, .int (nI O), .int (nI ru)] (wl_kf_X2_takeBit_3 cI cJ cK xr r1 r2 r3 r4 r5 w0 w1 w2 w3 w4 w5 w6 w7 (nI rz) (nI rv) rw rk ro rt rb wf3 wf4 wf5 wf6 wf7) (fun (u : va_W) => ∃ (rw' : Int32) (rk' : Int32) (ro' : Nat → Int64) (rt' : Nat → Int32) (rb' : Nat → Int32) (wf4' : Nat → Int64) (wf5' : Nat → Int64) (wf6' : Nat → Int64) (wf7' : Nat → Int64), u = (wl_kf_X2_takeBit_3 cI cJ cK xr r1 r2 r3 r4 r5 w0 w1 w2 w3 w4 w5 w6 w7 (nI rz) (nI rv) rw' rk' ro' rt' rb' wf3 wf4' wf5' wf6' wf7') ∧ True ∧ rw' = nI (min F (ru + tT rz ((rv - 1) - 3) (tP vg b rz) (oS O)))) := by
  refine ctV.of (cc := cX2_takeBit) (maxL := 4) (ret := none) (by decide) rfl (Nat.le_of_ble_eq_true rfl) ?_
  intro p e s m below meth c ls A hx hb hr hts hown hml hlocks hname hA hK hN hP hD hS hl
  have hl : lv_has ls 4 [(0, .ref xr), (1, .int 3), (2, .int (nI O)), (3, .int (nI ru))] := hl
  have hown : s.vm.findClass RX2 = some m.cls := hown
  have hi2 : ∀ w ∈ u_ws RX2 TX2 9, w ∈ wsX2_takeBit := by decide +kernel
  have fl11 := hts (.fieldLink RX2 11 "PlaneColumn$OrderSearch" "lines" "[[J") (by decide +kernel)
  have fl20 := hts (.fieldLink RX2 20 "PlaneColumn$OrderSearch" "tried" "[I") (by decide +kernel)
  have fl24 := hts (.fieldLink RX2 24 "PlaneColumn$OrderSearch" "best" "[I") (by decide +kernel)
  have fl34 := hts (.fieldLink RX2 34 "PlaneColumn$OrderSearch" "variedCount" "I") (by decide +kernel)
  have fl37 := hts (.fieldLink RX2 37 "PlaneColumn$OrderSearch" "fewest" "I") (by decide +kernel)
  refine lv_iload_n hx hb dX2_takeBit_0 rfl (lv_at hl 2 rfl) ?_
  refine lv_if_ne (tgt := 29) hx hb dX2_takeBit_1 (by decide) (fun c1 => ?_) (fun c1 => ?_)
  ·
    have d1 : ((O : Nat) : Int) ≠ (0 : Int) := my_ne c1 (nI_toInt (by omega)) (by decide +kernel)
    refine lv_iload_n hx hb dX2_takeBit_29 rfl (lv_at hl 1 rfl) ?_
    refine lv_iconst (v := 1) hx hb dX2_takeBit_30 (by decide +kernel) ?_
    refine lv_iadd hx hb dX2_takeBit_31 ?_
    refine my_eqi (y := 4) (by decide +kernel) ?_
    refine lv_bipush (v := 8) hx hb dX2_takeBit_32 (by decide +kernel) ?_
    refine lv_icmp_ge (tgt := 70) hx hb dX2_takeBit_34 (by decide) (fun c34 => ?_) (fun c34 => ?_)
    ·
      exact absurd c34 (by decide +kernel)
    ·
      refine lv_aload_n hx hb dX2_takeBit_37 rfl (lv_at hl 0 rfl) ?_
      refine lv_aload_n hx hb dX2_takeBit_38 rfl (lv_at hl 0 rfl) ?_
      refine va_get (ci := 2) (v := .ref r1) (C := RX2) (T := TX2) (N := 9) hx hb hts hi2 hown hK hP 0 rfl rfl 0 (by decide) fl11 (fun _ h9 => h9) rfl dX2_takeBit_39 ?_
      refine lv_iload_n hx hb dX2_takeBit_42 rfl (lv_at hl 1 rfl) ?_
      refine my_aald hx hb hK hP 1 rfl (vp_in_nI (n := 3) (by omega) (by omega)) dX2_takeBit_43 ?_
      refine my_eqa (y := .ref w3) (by rw [show (3 : Int32).toNatClampNeg = 3 by decide +kernel]; rfl) ?_
      refine lv_aload_n hx hb dX2_takeBit_44 rfl (lv_at hl 0 rfl) ?_
      refine va_get (ci := 2) (v := .ref r1) (C := RX2) (T := TX2) (N := 9) hx hb hts hi2 hown hK hP 0 rfl rfl 0 (by decide) fl11 (fun _ h9 => h9) rfl dX2_takeBit_45 ?_
      refine lv_iload_n hx hb dX2_takeBit_48 rfl (lv_at hl 1 rfl) ?_
      refine lv_iconst (v := 1) hx hb dX2_takeBit_49 (by decide +kernel) ?_
      refine lv_iadd hx hb dX2_takeBit_50 ?_
      refine my_eqi (y := 4) (by decide +kernel) ?_
      refine my_aald hx hb hK hP 1 rfl (vp_in_nI (n := 4) (by omega) (by omega)) dX2_takeBit_51 ?_
      refine my_eqa (y := .ref w4) (by rw [show (4 : Int32).toNatClampNeg = 4 by decide +kernel]; rfl) ?_
      refine lv_aload_n hx hb dX2_takeBit_52 rfl (lv_at hl 0 rfl) ?_
      refine va_get (ci := 2) (v := .ref r3) (C := RX2) (T := TX2) (N := 9) hx hb hts hi2 hown hK hP 0 rfl rfl 2 (by decide) fl20 (fun _ h9 => h9) rfl dX2_takeBit_53 ?_
      refine lv_iload_n hx hb dX2_takeBit_56 rfl (lv_at hl 1 rfl) ?_
      refine va_iald hx hb hK hP 3 0 rfl rfl (vp_in_nI (n := 3) (by omega) (by omega)) dX2_takeBit_57 ?_
      refine my_eqi (y := nI b) ((congrArg rt (show (3 : Int32).toNatClampNeg = 3 by decide +kernel)).trans hrt) ?_
      refine my_goVS (wc := (wl_kf_X2_part cI cJ cK xr r1 r2 r3 r4 r5 w3 w4 (nI rz) (nI rv) rw rk ro wf3 wf4)) hP hD hS hA [0, 2, 5, 6] rfl [some 0, none, some 1, none, none, some 2, some 3] (by decide +kernel) (my_cV (As := [.ref w3, .ref w4, .int (nI b)]) (rest := []) (ci := 2) (wc := (wl_kf_X2_part cI cJ cK xr r1 r2 r3 r4 r5 w3 w4 (nI rz) (nI rv) rw rk ro wf3 wf4)) ⟨hx, hb, hml, hown, hts⟩ (cwV 3 hts gX2_takeBit_X2_part rfl rfl rfl (by decide +kernel) ⟨Nat.le_of_ble_eq_true rfl, Nat.le_of_ble_eq_true rfl⟩) hN hK hP hD [0, 2, 5, 6] rfl (by decide) rfl 0 rfl rfl rfl rfl hl.1 rfl (Nat.le_of_ble_eq_true rfl) dX2_takeBit_58 ⟨Nat.le_of_ble_eq_true rfl, Nat.le_of_ble_eq_true rfl⟩  ((kf_X2_part l D cI cJ cK xr r1 r2 r3 r4 r5 w3 w4 rz rv rw rk ro wf3 wf4 b vg (by first | assumption | omega | decide +kernel) (by first | assumption | omega | decide +kernel) (by first | assumption | omega | decide +kernel) (by first | assumption | omega | decide +kernel)) _)) (fun u H locs hp hPD hS => ?_)
      obtain ⟨ro_1, wfb_2, rfl, hpl, ht_3⟩ := hp
      obtain ⟨hP, hD⟩ := hPD rfl
      have hP : va_P D vwCl (wl_kf_X2_takeBit_3 cI cJ cK xr r1 r2 r3 r4 r5 w0 w1 w2 w3 w4 w5 w6 w7 (nI rz) (nI rv) rw rk ro_1 rt rb wf3 wfb_2 wf5 wf6 wf7) H := hP
      have hD : va_D A (wl_kf_X2_takeBit_3 cI cJ cK xr r1 r2 r3 r4 r5 w0 w1 w2 w3 w4 w5 w6 w7 (nI rz) (nI rv) rw rk ro_1 rt rb wf3 wfb_2 wf5 wf6 wf7) := hD
      refine lv_aload_n hx hb dX2_takeBit_61 rfl (lv_at hl 0 rfl) ?_
      refine lv_iload_n hx hb dX2_takeBit_62 rfl (lv_at hl 1 rfl) ?_
      refine lv_iconst (v := 1) hx hb dX2_takeBit_63 (by decide +kernel) ?_
      refine lv_iadd hx hb dX2_takeBit_64 ?_
      refine my_eqi (y := 4) (by decide +kernel) ?_
      refine lv_iload_n hx hb dX2_takeBit_65 rfl (lv_at hl 2 rfl) ?_
      refine lv_iload_n hx hb dX2_takeBit_66 rfl (lv_at hl 3 rfl) ?_
      refine my_goVS (wc := (wl_kf_X2_tryBits_4 cI cJ cK xr r1 r2 r3 r4 r5 w0 w1 w2 w3 w4 w5 w6 w7 (nI rz) (nI rv) rw rk ro_1 rt rb wfb_2 wf5 wf6 wf7)) hP hD hS hA [0, 1, 2, 3, 4, 6, 7, 8, 9] rfl [some 0, some 1, some 2, some 3, some 4, none, some 5, some 6, some 7, some 8] (by decide +kernel) (my_cV (As := [.int 4, .int (nI O), .int (nI ru)]) (rest := []) (ci := 2) (wc := (wl_kf_X2_tryBits_4 cI cJ cK xr r1 r2 r3 r4 r5 w0 w1 w2 w3 w4 w5 w6 w7 (nI rz) (nI rv) rw rk ro_1 rt rb wfb_2 wf5 wf6 wf7)) ⟨hx, hb, hml, hown, hts⟩ (cwV 3 hts gX2_takeBit_X2_tryBits rfl rfl rfl (by decide +kernel) ⟨Nat.le_of_ble_eq_true rfl, Nat.le_of_ble_eq_true rfl⟩) hN hK hP hD [0, 1, 2, 3, 4, 6, 7, 8, 9] rfl (by decide) rfl 0 rfl rfl rfl rfl hl.1 rfl (Nat.le_of_ble_eq_true rfl) dX2_takeBit_67 ⟨Nat.le_of_ble_eq_true rfl, Nat.le_of_ble_eq_true rfl⟩  ((kf_X2_tryBits_4 l D cI cJ cK xr r1 r2 r3 r4 r5 w0 w1 w2 w3 w4 w5 w6 w7 rz rv rw rk ro_1 rt rb wfb_2 wf5 wf6 wf7 O ru F (tP vg b rz) (by first | assumption | omega | decide +kernel) (by first | assumption | omega | decide +kernel) (by first | assumption | omega | decide +kernel) (by first | assumption | omega | decide +kernel) (by first | assumption | omega | decide +kernel) (by first | assumption | omega | decide +kernel) (hpl) (tP_8 hv8) (fun c hc hs => tV_p.mpr (hvr c hc hs)) (by first | assumption | omega | decide +kernel) (Or.inl (by have h9 := oS_pos hO (by omega); omega))) _)) (fun u H locs hp hPD hS => ?_)
      obtain ⟨rw_4, rk_5, ro_6, rt_7, rb_8, wf5_9, wf6_10, wf7_11, rfl, ht_12, hfw1⟩ := hp
      obtain ⟨hP, hD⟩ := hPD rfl
      have hP : va_P D vwCl (wl_kf_X2_takeBit_3 cI cJ cK xr r1 r2 r3 r4 r5 w0 w1 w2 w3 w4 w5 w6 w7 (nI rz) (nI rv) rw_4 rk_5 ro_6 rt_7 rb_8 wf3 wfb_2 wf5_9 wf6_10 wf7_11) H := hP
      have hD : va_D A (wl_kf_X2_takeBit_3 cI cJ cK xr r1 r2 r3 r4 r5 w0 w1 w2 w3 w4 w5 w6 w7 (nI rz) (nI rv) rw_4 rk_5 ro_6 rt_7 rb_8 wf3 wfb_2 wf5_9 wf6_10 wf7_11) := hD
      exact my_retV hx hb hr hlocks hK hS (wl_kf_X2_takeBit_3 cI cJ cK xr r1 r2 r3 r4 r5 w0 w1 w2 w3 w4 w5 w6 w7 (nI rz) (nI rv) rw_4 rk_5 ro_6 rt_7 rb_8 wf3 wfb_2 wf5_9 wf6_10 wf7_11) hP hD (⟨rw_4, rk_5, ro_6, rt_7, rb_8, wfb_2, wf5_9, wf6_10, wf7_11, rfl, (by first | assumption | omega | trivial | decide +kernel), (by first | exact tk_0 (by omega) (by omega) hru | (rw [show ((rv - 1) - 3) = rv - 4 from (by omega)]; exact hfw1) | (exfalso; have h9 := oS_pos hO (by omega); omega))⟩) dX2_takeBit_70
  ·
    have d1 : ((O : Nat) : Int) = (0 : Int) := my_eq c1 (nI_toInt (by omega)) (by decide +kernel)
    refine lv_aload_n hx hb dX2_takeBit_4 rfl (lv_at hl 0 rfl) ?_
    refine lv_iload_n hx hb dX2_takeBit_5 rfl (lv_at hl 3 rfl) ?_
    refine va_put (ci := 2) (v := .int (nI ru)) (ty := (.int)) (C := RX2) (T := TX2) (N := 9) hx hb hts hi2 tyX2 tyX2_ok nmX2 hown hK hP hD hS 0 rfl rfl 7 (by decide) fl37 (fun _ h9 => h9) rfl (by decide +kernel) rfl rfl (Nat.le_of_ble_eq_true rfl) dX2_takeBit_6 (fun H locs hP hD hS => ?_)
    have hP : va_P D vwCl (wl_kf_X2_takeBit_3 cI cJ cK xr r1 r2 r3 r4 r5 w0 w1 w2 w3 w4 w5 w6 w7 (nI rz) (nI rv) (nI ru) rk ro rt rb wf3 wf4 wf5 wf6 wf7) H := hP
    have hD : va_D A (wl_kf_X2_takeBit_3 cI cJ cK xr r1 r2 r3 r4 r5 w0 w1 w2 w3 w4 w5 w6 w7 (nI rz) (nI rv) (nI ru) rk ro rt rb wf3 wf4 wf5 wf6 wf7) := hD
    refine lv_aload_n hx hb dX2_takeBit_9 rfl (lv_at hl 0 rfl) ?_
    refine va_get (ci := 2) (v := .ref r3) (C := RX2) (T := TX2) (N := 9) hx hb hts hi2 hown hK hP 0 rfl rfl 2 (by decide) fl20 (fun _ h9 => h9) rfl dX2_takeBit_10 ?_
    refine lv_iconst (v := 0) hx hb dX2_takeBit_13 (by decide +kernel) ?_
    refine lv_aload_n hx hb dX2_takeBit_14 rfl (lv_at hl 0 rfl) ?_
    refine va_get (ci := 2) (v := .ref r4) (C := RX2) (T := TX2) (N := 9) hx hb hts hi2 hown hK hP 0 rfl rfl 3 (by decide) fl24 (fun _ h9 => h9) rfl dX2_takeBit_15 ?_
    refine lv_iconst (v := 0) hx hb dX2_takeBit_18 (by decide +kernel) ?_
    refine lv_aload_n hx hb dX2_takeBit_19 rfl (lv_at hl 0 rfl) ?_
    refine va_get (ci := 2) (v := .int (nI rv)) (C := RX2) (T := TX2) (N := 9) hx hb hts hi2 hown hK hP 0 rfl rfl 6 (by decide) fl34 (fun _ h9 => h9) rfl dX2_takeBit_20 ?_
    refine va_copyi hx hb (hml.trans hl.1.symm) hown (hts (.methodLink RX2 75 arraycopyName) (by decide +kernel)) (hts (.native arraycopyName) (by decide +kernel)) (hts (.static arraycopyName) (by decide +kernel)) (hts (.initialized "java/lang/System") (by decide +kernel)) hK hP hD hS 3 4 0 0 rfl rfl rfl rfl rfl (by decide +kernel) (by decide +kernel) (nI_nneg (by omega)) (by rw [show (0 : Int32).toNatClampNeg = 0 from (by decide +kernel), show (nI rv : Int32).toNatClampNeg = rv from (nI_clamp (by omega))]; omega) (by rw [show (0 : Int32).toNatClampNeg = 0 from (by decide +kernel), show (nI rv : Int32).toNatClampNeg = rv from (nI_clamp (by omega))]; omega) (fun _ _ => rfl) (Nat.le_of_ble_eq_true rfl) (Nat.le_of_ble_eq_true rfl) dX2_takeBit_23 (fun H locs hP hD hS => ?_)
    obtain ⟨g_13, eg_13⟩ : ∃ g : Nat → Int32, g = va_cpy rt rb 0 0 rv := ⟨_, rfl⟩
    have eU : va_cpy rt rb (0 : Int32).toNatClampNeg (0 : Int32).toNatClampNeg (nI rv : Int32).toNatClampNeg = g_13 := by rw [eg_13, show (0 : Int32).toNatClampNeg = 0 from (by decide +kernel), show (nI rv : Int32).toNatClampNeg = rv from (nI_clamp (by omega))]
    rw [eU] at hP hD
    have hP : va_P D vwCl (wl_kf_X2_takeBit_3 cI cJ cK xr r1 r2 r3 r4 r5 w0 w1 w2 w3 w4 w5 w6 w7 (nI rz) (nI rv) (nI ru) rk ro rt g_13 wf3 wf4 wf5 wf6 wf7) H := hP
    have hD : va_D A (wl_kf_X2_takeBit_3 cI cJ cK xr r1 r2 r3 r4 r5 w0 w1 w2 w3 w4 w5 w6 w7 (nI rz) (nI rv) (nI ru) rk ro rt g_13 wf3 wf4 wf5 wf6 wf7) := hD
    refine lv_goto (tgt := 70) hx hb dX2_takeBit_26 (by decide) ?_
    exact my_retV hx hb hr hlocks hK hS (wl_kf_X2_takeBit_3 cI cJ cK xr r1 r2 r3 r4 r5 w0 w1 w2 w3 w4 w5 w6 w7 (nI rz) (nI rv) (nI ru) rk ro rt g_13 wf3 wf4 wf5 wf6 wf7) hP hD (⟨(nI ru), rk, ro, rt, g_13, wf4, wf5, wf6, wf7, rfl, (by first | assumption | omega | trivial | decide +kernel), (by first | exact tk_0 (by omega) (by omega) hru | (rw [show ((rv - 1) - 3) = rv - 4 from (by omega)]; exact hfw1) | (exfalso; have h9 := oS_pos hO (by omega); omega))⟩) dX2_takeBit_70
abbrev wl_kf_X2_tryBits_3 (cI cJ cK : ClassId) (xr : Nat) (r1 : Nat) (r2 : Nat) (r3 : Nat) (r4 : Nat) (r5 : Nat) (w0 : Nat) (w1 : Nat) (w2 : Nat) (w3 : Nat) (w4 : Nat) (w5 : Nat) (w6 : Nat) (w7 : Nat) (v0_ : Int32) (v1_ : Int32) (v2_ : Int32) (v3_ : Int32) (v4_ : Nat → Int64) (v5_ : Nat → Int32) (v6_ : Nat → Int32) (v7_ : Nat → Int64) (v8_ : Nat → Int64) (v9_ : Nat → Int64) (v10_ : Nat → Int64) (v11_ : Nat → Int64) : va_W := [(xr, .inr (2, [.ref r1, .ref r2, .ref r3, .ref r4, .ref r5, .int v0_, .int v1_, .int v2_, .int v3_])), (r1, .inl (cK, 8, .inr (.inr (.inr (.inr (fun j => ([w0, w1, w2, w3, w4, w5, w6, w7] : List Nat)[j]?)))))), (r2, .inl (cJ, 64, .inr (.inl v4_))), (r3, .inl (cI, 8, .inl v5_)), (r4, .inl (cI, 8, .inl v6_)), (w3, .inl (cJ, 64, .inr (.inl v7_))), (w4, .inl (cJ, 64, .inr (.inl v8_))), (w5, .inl (cJ, 64, .inr (.inl v9_))), (w6, .inl (cJ, 64, .inr (.inl v10_))), (w7, .inl (cJ, 64, .inr (.inl v11_)))]
set_option maxHeartbeats 4000000 in
set_option maxRecDepth 100000 in
theorem kf_X2_tryBits_3 (l : Launch) (D : va_G) (cI cJ cK : ClassId) (xr : Nat) (r1 : Nat) (r2 : Nat) (r3 : Nat) (r4 : Nat) (r5 : Nat) (w0 : Nat) (w1 : Nat) (w2 : Nat) (w3 : Nat) (w4 : Nat) (w5 : Nat) (w6 : Nat) (w7 : Nat) (rz : Nat) (rv : Nat) (rw : Int32) (rk : Int32) (ro : Nat → Int64) (rt : Nat → Int32) (rb : Nat → Int32) (wf3 : Nat → Int64) (wf4 : Nat → Int64) (wf5 : Nat → Int64) (wf6 : Nat → Int64) (wf7 : Nat → Int64) (O : Nat) (ra : Nat) (F : Nat) (vg : Nat → Nat) (hz_rz : rz ≤ 64) (hz_rv : rv ≤ 8) (hO : O < 256) (hra : ra ≤ 192) (hF : F ≤ 513) (hfw : rw = nI F) (hln : ∀ i, i < rz → wf3 i = lN (laN (vg i))) (hv8 : ∀ i, i < rz → vg i < 256) (hvr : ∀ c, c < 8 → oS O c = true → tV vg rz c) (hcd : tC (oS O) + 3 = rv) (hj0 : 3 < rv ∨ F = 0) : ctV l yX2_tryBits wsX2_tryBits ({ frames := 11, cells := 0, slots := 0, locals := 660 } : Room) D (tyIJ cI cJ cK) [.ref xr, .int 3, .int (nI O), .int (nI ra)] (wl_kf_X2_tryBits_3 cI cJ cK xr r1 r2 r3 r4 r5 w0 w1 w2 w3 w4 w5 w6 w7 (nI rz) (nI rv) rw rk ro rt rb wf3 wf4 wf5 wf6 wf7) (fun (u : va_W) => ∃ (rw' : Int32) (rk' : Int32) (ro' : Nat → Int64) (rt' : Nat → Int32) (rb' : Nat → Int32) (wf4' : Nat → Int64) (wf5' : Nat → Int64) (wf6' : Nat → Int64) (wf7' : Nat → Int64), u = (wl_kf_X2_tryBits_3 cI cJ cK xr r1 r2 r3 r4 r5 w0 w1 w2 w3 w4 w5 w6 w7 (nI rz) (nI rv) rw' rk' ro' rt' rb' wf3 wf4' wf5' wf6' wf7') ∧ True ∧ rw' = nI (min F (ra + tT rz (rv - 3) vg (oS O)))) := by
  refine ctV.of (cc := cX2_tryBits) (maxL := 9) (ret := none) (by decide) rfl (Nat.le_of_ble_eq_true rfl) ?_
  intro p e s m below meth c ls A hx hb hr hts hown hml hlocks hname hA hK hN hP hD hS hl
  have hl : lv_has ls 9 [(0, .ref xr), (1, .int 3), (2, .int (nI O)), (3, .int (nI ra))] := hl
  have hown : s.vm.findClass RX2 = some m.cls := hown
  have hi2 : ∀ w ∈ u_ws RX2 TX2 9, w ∈ wsX2_tryBits := by decide +kernel
  have fl11 := hts (.fieldLink RX2 11 "PlaneColumn$OrderSearch" "lines" "[[J") (by decide +kernel)
  have fl20 := hts (.fieldLink RX2 20 "PlaneColumn$OrderSearch" "tried" "[I") (by decide +kernel)
  have fl34 := hts (.fieldLink RX2 34 "PlaneColumn$OrderSearch" "variedCount" "I") (by decide +kernel)
  have fl37 := hts (.fieldLink RX2 37 "PlaneColumn$OrderSearch" "fewest" "I") (by decide +kernel)
  refine lv_iload_n hx hb dX2_tryBits_0 rfl (lv_at hl 1 rfl) ?_
  refine lv_aload_n hx hb dX2_tryBits_1 rfl (lv_at hl 0 rfl) ?_
  refine va_get (ci := 2) (v := .int (nI rv)) (C := RX2) (T := TX2) (N := 9) hx hb hts hi2 hown hK hP 0 rfl rfl 6 (by decide) fl34 (fun _ h9 => h9) rfl dX2_tryBits_2 ?_
  refine lv_icmp_ge (tgt := 14) hx hb dX2_tryBits_5 (by decide) (fun c5 => ?_) (fun c5 => ?_)
  ·
    have d5 : (3 : Int) ≥ ((rv : Nat) : Int) := my_ge c5 (by decide +kernel) (nI_toInt (by omega))
    exact my_retV hx hb hr hlocks hK hS (wl_kf_X2_tryBits_3 cI cJ cK xr r1 r2 r3 r4 r5 w0 w1 w2 w3 w4 w5 w6 w7 (nI rz) (nI rv) rw rk ro rt rb wf3 wf4 wf5 wf6 wf7) hP hD (⟨rw, rk, ro, rt, rb, wf4, wf5, wf6, wf7, rfl, (by first | assumption | omega | trivial | decide +kernel), (by first | exact tc_end hfw2 (by omega) (by omega) | exact tc_no hfw (by omega))⟩) dX2_tryBits_14
  ·
    have d5 : (3 : Int) < ((rv : Nat) : Int) := my_nge c5 (by decide +kernel) (nI_toInt (by omega))
    refine lv_iload_n hx hb dX2_tryBits_8 rfl (lv_at hl 1 rfl) ?_
    refine lv_bipush (v := 8) hx hb dX2_tryBits_9 (by decide +kernel) ?_
    refine lv_icmp_lt (tgt := 15) hx hb dX2_tryBits_11 (by decide) (fun c11 => ?_) (fun c11 => ?_)
    ·
      refine lv_aload_n hx hb dX2_tryBits_15 rfl (lv_at hl 0 rfl) ?_
      refine lv_aload_n hx hb dX2_tryBits_16 rfl (lv_at hl 0 rfl) ?_
      refine va_get (ci := 2) (v := .ref r1) (C := RX2) (T := TX2) (N := 9) hx hb hts hi2 hown hK hP 0 rfl rfl 0 (by decide) fl11 (fun _ h9 => h9) rfl dX2_tryBits_17 ?_
      refine lv_iload_n hx hb dX2_tryBits_20 rfl (lv_at hl 1 rfl) ?_
      refine my_aald hx hb hK hP 1 rfl (vp_in_nI (n := 3) (by omega) (by omega)) dX2_tryBits_21 ?_
      refine my_eqa (y := .ref w3) (by rw [show (3 : Int32).toNatClampNeg = 3 by decide +kernel]; rfl) ?_
      refine my_gpL (my_pV (As := [.ref w3]) (rest := []) (ci := 2) ⟨hx, hb, hml, hown, hts⟩ (cwV 1 hts gX2_tryBits_X2_changesOf rfl rfl rfl (by decide +kernel) ⟨Nat.le_of_ble_eq_true rfl, Nat.le_of_ble_eq_true rfl⟩) hN hK hP [0, 5] rfl 0 rfl rfl rfl rfl hl.1 rfl (Nat.le_of_ble_eq_true rfl) dX2_tryBits_22 ⟨Nat.le_of_ble_eq_true rfl, Nat.le_of_ble_eq_true rfl⟩  (kf_X2_changesOf l D cI cJ cK xr r1 r2 r3 r4 r5 w3 rz rv rw rk wf3 vg (by first | assumption | omega | decide +kernel) (by first | assumption | omega | decide +kernel) (by first | assumption | omega | decide +kernel) (by first | assumption | omega | decide +kernel))) (fun r hp => ?_)
      obtain ⟨c_1, rfl, hcc, ht_2⟩ := hp
      refine lv_lstore (lv' := [(4, .long (lN c_1)), (0, .ref xr), (1, .int 3), (2, .int (nI O)), (3, .int (nI ra))]) hx hb dX2_tryBits_25 hl (by decide) rfl (fun ls hl => ?_)
      refine lv_iconst (v := 2) hx hb dX2_tryBits_27 (by decide +kernel) ?_
      refine lv_aload_n hx hb dX2_tryBits_28 rfl (lv_at hl 1 rfl) ?_
      refine va_get (ci := 2) (v := .int (nI rv)) (C := RX2) (T := TX2) (N := 9) hx hb hts hi2 hown hK hP 0 rfl rfl 6 (by decide) fl34 (fun _ h9 => h9) rfl dX2_tryBits_29 ?_
      refine lv_iconst (v := 1) hx hb dX2_tryBits_32 (by decide +kernel) ?_
      refine lv_isub hx hb dX2_tryBits_33 ?_
      refine my_eqi (y := nI (rv - 1)) (my_subN (a := rv) (b := 1) (by omega)) ?_
      refine lv_iload_n hx hb dX2_tryBits_34 rfl (lv_at hl 2 rfl) ?_
      refine lv_isub hx hb dX2_tryBits_35 ?_
      refine my_eqi (y := nI ((rv - 1) - 3)) (my_subN (a := rv - 1) (b := 3) (by omega)) ?_
      refine lv_imul hx hb dX2_tryBits_36 ?_
      refine my_eqi (y := nI (2 * ((rv - 1) - 3))) (my_mulN _ _) ?_
      refine lv_istore (lv' := [(6, .int (nI (2 * ((rv - 1) - 3)))), (4, .long (lN c_1)), (0, .ref xr), (1, .int 3), (2, .int (nI O)), (3, .int (nI ra))]) hx hb dX2_tryBits_37 hl (by decide) rfl (fun ls hl => ?_)
      refine lv_bipush (v := 7) hx hb dX2_tryBits_39 (by decide +kernel) ?_
      refine lv_istore (lv' := [(7, .int 7), (6, .int (nI (2 * ((rv - 1) - 3)))), (4, .long (lN c_1)), (0, .ref xr), (1, .int 3), (2, .int (nI O)), (3, .int (nI ra))]) hx hb dX2_tryBits_41 hl (by decide) rfl (fun ls hl => ?_)
      have loop43 : ∀ (n9 : Nat) (x : Int32) (xr_fewest_43 : Int32) (xr_known_43 : Int32) (r2_43 : Nat → Int64) (r3_43 : Nat → Int32) (r4_43 : Nat → Int32) (w4_43 : Nat → Int64) (w5_43 : Nat → Int64) (w6_43 : Nat → Int64) (w7_43 : Nat → Int64), (x.toInt + 1).toNat < n9 → (-1 ≤ x.toInt) → (x.toInt ≤ 7) → (xr_fewest_43 = nI (min F (ra + tM (tF rz ((rv - 1) - 3) vg (oS O)) (oS O) (7 - x.toInt).toNat))) → ∀ (H : Heap) (locs : List Loc) (ls : Array Slot), va_P D vwCl (wl_kf_X2_tryBits_3 cI cJ cK xr r1 r2 r3 r4 r5 w0 w1 w2 w3 w4 w5 w6 w7 (nI rz) (nI rv) xr_fewest_43 xr_known_43 r2_43 r3_43 r4_43 wf3 w4_43 w5_43 w6_43 w7_43) H → va_D A (wl_kf_X2_tryBits_3 cI cJ cK xr r1 r2 r3 r4 r5 w0 w1 w2 w3 w4 w5 w6 w7 (nI rz) (nI rv) xr_fewest_43 xr_known_43 r2_43 r3_43 r4_43 wf3 w4_43 w5_43 w6_43 w7_43) → va_S A s.heap H locs → lv_has ls 9 [(7, .int x), (6, .int (nI (2 * ((rv - 1) - 3)))), (4, .long (lN c_1)), (0, .ref xr), (1, .int 3), (2, .int (nI O)), (3, .int (nI ra))] → W p l e ({ frames := 11, cells := 0, slots := 0, locals := 660 } : Room) s m [.ref xr, .int 3, .int (nI O), .int (nI ra)].toArray below meth c H locs 0 0 (MQ below (va_Qv (fun (u : va_W) => ∃ (rw' : Int32) (rk' : Int32) (ro' : Nat → Int64) (rt' : Nat → Int32) (rb' : Nat → Int32) (wf4' : Nat → Int64) (wf5' : Nat → Int64) (wf6' : Nat → Int64) (wf7' : Nat → Int64), u = (wl_kf_X2_tryBits_3 cI cJ cK xr r1 r2 r3 r4 r5 w0 w1 w2 w3 w4 w5 w6 w7 (nI rz) (nI rv) rw' rk' ro' rt' rb' wf3 wf4' wf5' wf6' wf7') ∧ True ∧ rw' = nI (min F (ra + tT rz (rv - 3) vg (oS O)))) (my_B D (tyIJ cI cJ cK) A) A) [.ref xr, .int 3, .int (nI O), .int (nI ra)].toArray s 0 0 A) (F0 m 43 ls []) := by
        intro n9
        induction n9 with
        | zero =>
          intro x xr_fewest_43 xr_known_43 r2_43 r3_43 r4_43 w4_43 w5_43 w6_43 w7_43 hn9
          exact absurd hn9 (Nat.not_lt_zero _)
        | succ n9 ih43 =>
          intro x xr_fewest_43 xr_known_43 r2_43 r3_43 r4_43 w4_43 w5_43 w6_43 w7_43 hn9 hx0 hx1 hfw2 H locs ls hP hD hS hl
          have hfi : xr_fewest_43.toInt = (((min F (ra + tM (tF rz ((rv - 1) - 3) vg (oS O)) (oS O) (7 - x.toInt).toNat)) : Nat) : Int) := by rw [hfw2]; exact nI_toInt (by omega)
          refine lv_iload hx hb dX2_tryBits_43 (lv_at hl 0 rfl) ?_
          refine lv_if_lt (tgt := 117) hx hb dX2_tryBits_45 (by decide) (fun c45 => ?_) (fun c45 => ?_)
          ·
            have d45 : x.toInt < (0 : Int) := my_lt c45 rfl (by decide +kernel)
            exact my_retV hx hb hr hlocks hK hS (wl_kf_X2_tryBits_3 cI cJ cK xr r1 r2 r3 r4 r5 w0 w1 w2 w3 w4 w5 w6 w7 (nI rz) (nI rv) xr_fewest_43 xr_known_43 r2_43 r3_43 r4_43 wf3 w4_43 w5_43 w6_43 w7_43) hP hD (⟨xr_fewest_43, xr_known_43, r2_43, r3_43, r4_43, w4_43, w5_43, w6_43, w7_43, rfl, (by first | assumption | omega | trivial | decide +kernel), (by first | exact tc_end hfw2 (by omega) (by omega) | exact tc_no hfw (by omega))⟩) dX2_tryBits_117
          ·
            have d45 : x.toInt ≥ (0 : Int) := my_nlt c45 rfl (by decide +kernel)
            obtain ⟨w_3, rfl, hw_3⟩ := my_natP (x := x) (by omega)
            refine lv_iload_n hx hb dX2_tryBits_48 rfl (lv_at hl 6 rfl) ?_
            refine lv_iconst (v := 1) hx hb dX2_tryBits_49 (by decide +kernel) ?_
            refine lv_iadd hx hb dX2_tryBits_50 ?_
            refine my_eqi (y := nI (ra + 1)) (my_addN ra 1) ?_
            refine lv_lload hx hb dX2_tryBits_51 (lv_at hl 2 rfl) ?_
            refine lv_bipush (v := 8) hx hb dX2_tryBits_53 (by decide +kernel) ?_
            refine lv_iload hx hb dX2_tryBits_55 (lv_at hl 0 rfl) ?_
            refine lv_imul hx hb dX2_tryBits_57 ?_
            refine my_eqi (y := nI (8 * w_3)) (my_mulN _ _) ?_
            have hclt : c_1 < 18446744073709551616 := by rw [hcc]; exact chS_lt vg hz_rz
            refine lv_lushr (v := lN (c_1 / 256 ^ w_3)) hx hb dX2_tryBits_58 (ush_8 hclt (by omega)) ?_
            refine lv_ldc2 (v := 255) hx hb hown (hts (.constantLong RX2 70 (255)) (by decide +kernel)) dX2_tryBits_59 ?_
            refine lv_land hx hb dX2_tryBits_62 ?_
            refine my_eql (y := lN (c_1 / 256 ^ w_3 % 256)) (and_255 (Nat.lt_of_le_of_lt (Nat.div_le_self _ _) hclt)) ?_
            refine lv_l2i (v := nI (c_1 / 256 ^ w_3 % 256)) hx hb dX2_tryBits_63 (l2i_N (by omega)) ?_
            refine lv_iadd hx hb dX2_tryBits_64 ?_
            refine my_eqi (y := nI (ra + 1 + c_1 / 256 ^ w_3 % 256)) (nI_add _ _) ?_
            refine lv_istore (lv' := [(8, .int (nI (ra + 1 + c_1 / 256 ^ w_3 % 256))), (7, .int (nI w_3)), (6, .int (nI (2 * ((rv - 1) - 3)))), (4, .long (lN c_1)), (0, .ref xr), (1, .int 3), (2, .int (nI O)), (3, .int (nI ra))]) hx hb dX2_tryBits_65 hl (by decide) rfl (fun ls hl => ?_)
            refine lv_iload_n hx hb dX2_tryBits_67 rfl (lv_at hl 6 rfl) ?_
            refine lv_iload hx hb dX2_tryBits_68 (lv_at hl 1 rfl) ?_
            refine lv_ishr hx hb dX2_tryBits_70 ?_
            refine my_eqi (y := nI (O / 2 ^ w_3)) (my_shrG (by omega) (by omega)) ?_
            refine lv_iconst (v := 1) hx hb dX2_tryBits_71 (by decide +kernel) ?_
            refine lv_iand hx hb dX2_tryBits_72 ?_
            refine my_eqi (y := nI ((O / 2 ^ w_3) % 2)) (my_maskN _ 1) ?_
            refine lv_if_eq (tgt := 111) hx hb dX2_tryBits_73 (by decide) (fun c73 => ?_) (fun c73 => ?_)
            ·
              have d73 : (((O / 2 ^ w_3) % 2 : Nat) : Int) = (0 : Int) := my_eq c73 (nI_toInt (by omega)) (by decide +kernel)
              obtain ⟨z_4, ez_4⟩ : ∃ y : Int32, y = nI w_3 + (-1) := ⟨_, rfl⟩
              try have tz_4 : z_4.toInt = ((w_3 : Nat) : Int) + (-1) := by rw [ez_4]; exact my_addI (nI_toInt (by omega)) (by decide +kernel) (by omega) (by omega)
              refine lv_iinc (v := z_4) (lv' := [(7, .int z_4), (8, .int (nI (ra + 1 + c_1 / 256 ^ w_3 % 256))), (6, .int (nI (2 * ((rv - 1) - 3)))), (4, .long (lN c_1)), (0, .ref xr), (1, .int 3), (2, .int (nI O)), (3, .int (nI ra))]) hx hb dX2_tryBits_111 hl (k := 1) rfl (by rw [ez_4]; rfl) (by decide) rfl (fun ls hl => ?_)
              refine lv_goto (tgt := 43) hx hb dX2_tryBits_114 (by decide) ?_
              exact ih43  z_4 xr_fewest_43 xr_known_43 r2_43 r3_43 r4_43 w4_43 w5_43 w6_43 w7_43 (by omega) (by first | assumption | omega | decide +kernel) (by first | assumption | omega | decide +kernel) (by first | exact tc_skip hfw2 (by omega) (by omega) (by omega) (os_f d73 (by omega)) | exact tc_bound hfw2 (by omega) (by omega) (by omega) (os_t d73 (by omega)) (by omega) | exact tc_done hfw1 (by omega) (by omega) (by omega) (os_t d73 (by omega)) (rm_G hO (by omega) hbt hru9 (by omega))) _ _ ls hP hD hS (lv_sub hl [0, 2, 3, 4, 5, 6, 7] rfl)
            ·
              have d73 : (((O / 2 ^ w_3) % 2 : Nat) : Int) ≠ (0 : Int) := my_ne c73 (nI_toInt (by omega)) (by decide +kernel)
              have hbt : Nat.testBit O w_3 = true := bN_t (by rw [← bn_tb]; omega)
              have hrz : 0 < rz := by obtain ⟨i9, hi9, -⟩ := hvr w_3 (by omega) hbt; omega
              have hru9 : ra + 1 + c_1 / 256 ^ w_3 % 256 = ra + rnF (tB vg w_3) rz := by rw [hcc, chS_at (by omega) hz_rz, tG_rn hrz]; omega
              have hrl := rnF_le (tB vg w_3) rz
              have hlb : rnF (tB vg w_3) rz + 2 * ((rv - 1) - 3) ≤ (tF rz ((rv - 1) - 3) vg (oS O)) (nI w_3).toInt.toNat := by rw [show (nI w_3).toInt.toNat = w_3 from (by omega)]; exact th_lb (by omega) hvr
              refine lv_iload hx hb dX2_tryBits_76 (lv_at hl 0 rfl) ?_
              refine lv_iload hx hb dX2_tryBits_78 (lv_at hl 2 rfl) ?_
              refine lv_iadd hx hb dX2_tryBits_80 ?_
              refine my_eqi (y := nI (ra + 1 + c_1 / 256 ^ w_3 % 256 + (2 * ((rv - 1) - 3)))) (nI_add _ _) ?_
              refine lv_aload_n hx hb dX2_tryBits_81 rfl (lv_at hl 4 rfl) ?_
              refine va_get (ci := 2) (v := .int xr_fewest_43) (C := RX2) (T := TX2) (N := 9) hx hb hts hi2 hown hK hP 0 rfl rfl 7 (by decide) fl37 (fun _ h9 => h9) rfl dX2_tryBits_82 ?_
              refine lv_icmp_ge (tgt := 111) hx hb dX2_tryBits_85 (by decide) (fun c85 => ?_) (fun c85 => ?_)
              ·
                have d85 : ((ra + 1 + c_1 / 256 ^ w_3 % 256 + (2 * ((rv - 1) - 3)) : Nat) : Int) ≥ xr_fewest_43.toInt := my_ge c85 (nI_toInt (by omega)) rfl
                obtain ⟨z_5, ez_5⟩ : ∃ y : Int32, y = nI w_3 + (-1) := ⟨_, rfl⟩
                try have tz_5 : z_5.toInt = ((w_3 : Nat) : Int) + (-1) := by rw [ez_5]; exact my_addI (nI_toInt (by omega)) (by decide +kernel) (by omega) (by omega)
                refine lv_iinc (v := z_5) (lv' := [(7, .int z_5), (8, .int (nI (ra + 1 + c_1 / 256 ^ w_3 % 256))), (6, .int (nI (2 * ((rv - 1) - 3)))), (4, .long (lN c_1)), (0, .ref xr), (1, .int 3), (2, .int (nI O)), (3, .int (nI ra))]) hx hb dX2_tryBits_111 hl (k := 1) rfl (by rw [ez_5]; rfl) (by decide) rfl (fun ls hl => ?_)
                refine lv_goto (tgt := 43) hx hb dX2_tryBits_114 (by decide) ?_
                exact ih43  z_5 xr_fewest_43 xr_known_43 r2_43 r3_43 r4_43 w4_43 w5_43 w6_43 w7_43 (by omega) (by first | assumption | omega | decide +kernel) (by first | assumption | omega | decide +kernel) (by first | exact tc_skip hfw2 (by omega) (by omega) (by omega) (os_f d73 (by omega)) | exact tc_bound hfw2 (by omega) (by omega) (by omega) (os_t d73 (by omega)) (by omega) | exact tc_done hfw1 (by omega) (by omega) (by omega) (os_t d73 (by omega)) (rm_G hO (by omega) hbt hru9 (by omega))) _ _ ls hP hD hS (lv_sub hl [0, 2, 3, 4, 5, 6, 7] rfl)
              ·
                have d85 : ((ra + 1 + c_1 / 256 ^ w_3 % 256 + (2 * ((rv - 1) - 3)) : Nat) : Int) < xr_fewest_43.toInt := my_nge c85 (nI_toInt (by omega)) rfl
                refine lv_aload_n hx hb dX2_tryBits_88 rfl (lv_at hl 4 rfl) ?_
                refine va_get (ci := 2) (v := .ref r3) (C := RX2) (T := TX2) (N := 9) hx hb hts hi2 hown hK hP 0 rfl rfl 2 (by decide) fl20 (fun _ h9 => h9) rfl dX2_tryBits_89 ?_
                refine lv_iload_n hx hb dX2_tryBits_92 rfl (lv_at hl 5 rfl) ?_
                refine lv_iload hx hb dX2_tryBits_93 (lv_at hl 1 rfl) ?_
                refine va_iast hx hb hK hP hD hS 3 0 rfl rfl (vp_in_nI (n := 3) (by omega) (by omega)) dX2_tryBits_95 (fun H locs hP hD hS => ?_)
                obtain ⟨g_6, eg_6⟩ : ∃ g : Nat → Int32, g = upd r3_43 3 (nI w_3) := ⟨_, rfl⟩
                have eU : upd r3_43 (3 : Int32).toNatClampNeg (nI w_3) = g_6 := by rw [eg_6, show (3 : Int32).toNatClampNeg = 3 from by decide +kernel]
                rw [eU] at hP hD
                have hP : va_P D vwCl (wl_kf_X2_tryBits_3 cI cJ cK xr r1 r2 r3 r4 r5 w0 w1 w2 w3 w4 w5 w6 w7 (nI rz) (nI rv) xr_fewest_43 xr_known_43 r2_43 g_6 r4_43 wf3 w4_43 w5_43 w6_43 w7_43) H := hP
                have hD : va_D A (wl_kf_X2_tryBits_3 cI cJ cK xr r1 r2 r3 r4 r5 w0 w1 w2 w3 w4 w5 w6 w7 (nI rz) (nI rv) xr_fewest_43 xr_known_43 r2_43 g_6 r4_43 wf3 w4_43 w5_43 w6_43 w7_43) := hD
                refine lv_aload_n hx hb dX2_tryBits_96 rfl (lv_at hl 4 rfl) ?_
                refine lv_iload_n hx hb dX2_tryBits_97 rfl (lv_at hl 5 rfl) ?_
                refine lv_iload_n hx hb dX2_tryBits_98 rfl (lv_at hl 6 rfl) ?_
                refine lv_iconst (v := 1) hx hb dX2_tryBits_99 (by decide +kernel) ?_
                refine lv_iload hx hb dX2_tryBits_100 (lv_at hl 1 rfl) ?_
                refine lv_ishl hx hb dX2_tryBits_102 ?_
                refine my_eqi (y := nI (2 ^ w_3)) (my_shl1 (by omega)) ?_
                refine lv_iconst (v := (-1)) hx hb dX2_tryBits_103 (by decide +kernel) ?_
                refine lv_ixor hx hb dX2_tryBits_104 ?_
                refine my_eqi (y := (nI (2 ^ w_3) ^^^ (-1))) (rfl) ?_
                refine lv_iand hx hb dX2_tryBits_105 ?_
                refine my_eqi (y := nI (O - 2 ^ w_3)) ((rm_b O hO _ (by omega) hbt).1) ?_
                refine lv_iload hx hb dX2_tryBits_106 (lv_at hl 0 rfl) ?_
                refine my_goVS (wc := (wl_kf_X2_takeBit_3 cI cJ cK xr r1 r2 r3 r4 r5 w0 w1 w2 w3 w4 w5 w6 w7 (nI rz) (nI rv) xr_fewest_43 xr_known_43 r2_43 g_6 r4_43 wf3 w4_43 w5_43 w6_43 w7_43)) hP hD hS hA [0, 1, 2, 3, 4, 5, 6, 7, 8, 9] rfl [some 0, some 1, some 2, some 3, some 4, some 5, some 6, some 7, some 8, some 9] (by decide +kernel) (my_cV (As := [.int 3, .int (nI (O - 2 ^ w_3)), .int (nI (ra + 1 + c_1 / 256 ^ w_3 % 256))]) (rest := []) (ci := 2) (wc := (wl_kf_X2_takeBit_3 cI cJ cK xr r1 r2 r3 r4 r5 w0 w1 w2 w3 w4 w5 w6 w7 (nI rz) (nI rv) xr_fewest_43 xr_known_43 r2_43 g_6 r4_43 wf3 w4_43 w5_43 w6_43 w7_43)) ⟨hx, hb, hml, hown, hts⟩ (cwV 3 hts gX2_tryBits_X2_takeBit rfl rfl rfl (by decide +kernel) ⟨Nat.le_of_ble_eq_true rfl, Nat.le_of_ble_eq_true rfl⟩) hN hK hP hD [0, 1, 2, 3, 4, 5, 6, 7, 8, 9] rfl (by decide) rfl 0 rfl rfl rfl rfl hl.1 rfl (Nat.le_of_ble_eq_true rfl) dX2_tryBits_108 ⟨Nat.le_of_ble_eq_true rfl, Nat.le_of_ble_eq_true rfl⟩  ((kf_X2_takeBit_3 l D cI cJ cK xr r1 r2 r3 r4 r5 w0 w1 w2 w3 w4 w5 w6 w7 rz rv xr_fewest_43 xr_known_43 r2_43 g_6 r4_43 wf3 w4_43 w5_43 w6_43 w7_43 (O - 2 ^ w_3) (ra + 1 + c_1 / 256 ^ w_3 % 256) w_3 (min F (ra + tM (tF rz ((rv - 1) - 3) vg (oS O)) (oS O) (7 - (nI w_3).toInt).toNat)) vg (by first | assumption | omega | decide +kernel) (by first | assumption | omega | decide +kernel) (by first | assumption | omega | decide +kernel) (us_at (by assumption)) ((rm_b O hO _ (by omega) hbt).2.1) (by have h9 := rm_c hO (by omega) hbt; omega) (rm_v hO (by omega) hbt hvr) (hfw2) (by first | assumption | omega | decide +kernel) (by first | assumption | omega | decide +kernel) (by first | assumption | omega | decide +kernel) (by first | assumption | omega | decide +kernel) (by first | assumption | omega | decide +kernel)) _)) (fun u H locs hp hPD hS => ?_)
                obtain ⟨rw_7, rk_8, ro_9, rt_10, rb_11, wf4_12, wf5_13, wf6_14, wf7_15, rfl, ht_16, hfw1⟩ := hp
                obtain ⟨hP, hD⟩ := hPD rfl
                have hP : va_P D vwCl (wl_kf_X2_tryBits_3 cI cJ cK xr r1 r2 r3 r4 r5 w0 w1 w2 w3 w4 w5 w6 w7 (nI rz) (nI rv) rw_7 rk_8 ro_9 rt_10 rb_11 wf3 wf4_12 wf5_13 wf6_14 wf7_15) H := hP
                have hD : va_D A (wl_kf_X2_tryBits_3 cI cJ cK xr r1 r2 r3 r4 r5 w0 w1 w2 w3 w4 w5 w6 w7 (nI rz) (nI rv) rw_7 rk_8 ro_9 rt_10 rb_11 wf3 wf4_12 wf5_13 wf6_14 wf7_15) := hD
                obtain ⟨z_17, ez_17⟩ : ∃ y : Int32, y = nI w_3 + (-1) := ⟨_, rfl⟩
                try have tz_17 : z_17.toInt = ((w_3 : Nat) : Int) + (-1) := by rw [ez_17]; exact my_addI (nI_toInt (by omega)) (by decide +kernel) (by omega) (by omega)
                refine lv_iinc (v := z_17) (lv' := [(7, .int z_17), (8, .int (nI (ra + 1 + c_1 / 256 ^ w_3 % 256))), (6, .int (nI (2 * ((rv - 1) - 3)))), (4, .long (lN c_1)), (0, .ref xr), (1, .int 3), (2, .int (nI O)), (3, .int (nI ra))]) hx hb dX2_tryBits_111 hl (k := 1) rfl (by rw [ez_17]; rfl) (by decide) rfl (fun ls hl => ?_)
                refine lv_goto (tgt := 43) hx hb dX2_tryBits_114 (by decide) ?_
                exact ih43  z_17 rw_7 rk_8 ro_9 rt_10 rb_11 wf4_12 wf5_13 wf6_14 wf7_15 (by omega) (by first | assumption | omega | decide +kernel) (by first | assumption | omega | decide +kernel) (by first | exact tc_skip hfw2 (by omega) (by omega) (by omega) (os_f d73 (by omega)) | exact tc_bound hfw2 (by omega) (by omega) (by omega) (os_t d73 (by omega)) (by omega) | exact tc_done hfw1 (by omega) (by omega) (by omega) (os_t d73 (by omega)) (rm_G hO (by omega) hbt hru9 (by omega))) _ _ ls hP hD hS (lv_sub hl [0, 2, 3, 4, 5, 6, 7] rfl)
      have ec_18 : (7 : Int32).toInt = 7 := by decide +kernel
      exact loop43 ((((7 : Int32).toInt + 1).toNat) + 1) (7 : Int32) rw rk ro rt rb wf4 wf5 wf6 wf7 (Nat.lt_succ_self _) (by first | assumption | omega | decide +kernel) (by first | assumption | omega | decide +kernel) (tc_0 hfw hF) _ _ ls hP hD hS (lv_sub hl [0, 1, 2, 3, 4, 5, 6] rfl)
    ·
      exact absurd c11 (by decide +kernel)
abbrev wl_kf_X2_takeBit_2 (cI cJ cK : ClassId) (xr : Nat) (r1 : Nat) (r2 : Nat) (r3 : Nat) (r4 : Nat) (r5 : Nat) (w0 : Nat) (w1 : Nat) (w2 : Nat) (w3 : Nat) (w4 : Nat) (w5 : Nat) (w6 : Nat) (w7 : Nat) (v0_ : Int32) (v1_ : Int32) (v2_ : Int32) (v3_ : Int32) (v4_ : Nat → Int64) (v5_ : Nat → Int32) (v6_ : Nat → Int32) (v7_ : Nat → Int64) (v8_ : Nat → Int64) (v9_ : Nat → Int64) (v10_ : Nat → Int64) (v11_ : Nat → Int64) (v12_ : Nat → Int64) : va_W := [(xr, .inr (2, [.ref r1, .ref r2, .ref r3, .ref r4, .ref r5, .int v0_, .int v1_, .int v2_, .int v3_])), (r1, .inl (cK, 8, .inr (.inr (.inr (.inr (fun j => ([w0, w1, w2, w3, w4, w5, w6, w7] : List Nat)[j]?)))))), (r2, .inl (cJ, 64, .inr (.inl v4_))), (r3, .inl (cI, 8, .inl v5_)), (r4, .inl (cI, 8, .inl v6_)), (w2, .inl (cJ, 64, .inr (.inl v7_))), (w3, .inl (cJ, 64, .inr (.inl v8_))), (w4, .inl (cJ, 64, .inr (.inl v9_))), (w5, .inl (cJ, 64, .inr (.inl v10_))), (w6, .inl (cJ, 64, .inr (.inl v11_))), (w7, .inl (cJ, 64, .inr (.inl v12_)))]
set_option maxHeartbeats 4000000 in
set_option maxRecDepth 100000 in
theorem kf_X2_takeBit_2 (l : Launch) (D : va_G) (cI cJ cK : ClassId) (xr : Nat) (r1 : Nat) (r2 : Nat) (r3 : Nat) (r4 : Nat) (r5 : Nat) (w0 : Nat) (w1 : Nat) (w2 : Nat) (w3 : Nat) (w4 : Nat) (w5 : Nat) (w6 : Nat) (w7 : Nat) (rz : Nat) (rv : Nat) (rw : Int32) (rk : Int32) (ro : Nat → Int64) (rt : Nat → Int32) (rb : Nat → Int32) (wf2 : Nat → Int64) (wf3 : Nat → Int64) (wf4 : Nat → Int64) (wf5 : Nat → Int64) (wf6 : Nat → Int64) (wf7 : Nat → Int64) (O : Nat) (ru : Nat) (b : Nat) (F : Nat) (vg : Nat → Nat) (hz_rz : rz ≤ 64) (hz_rv : rv ≤ 8) (hb8 : b < 8) (hrt : rt 2 = nI b) (hO : O < 256) (hcd : tC (oS O) + 3 = rv) (hvr : ∀ c, c < 8 → oS O c = true → tV vg rz c) (hfw : rw = nI F) (hF : F ≤ 513) (hru : ru < F) (hru6 : ru ≤ 192) (hln : ∀ i, i < rz → wf2 i = lN (laN (vg i))) (hv8 : ∀ i, i < rz → vg i < 256) : ctV l yX2_takeBit wsX2_takeBit ({ frames := 12, cells := 0, slots := 0, locals := 720 } : Room) D (tyIJ cI cJ cK) [.ref xr, .int 2, .int (nI O), .int (nI ru)] (wl_kf_X2_takeBit_2 cI cJ cK xr r1 r2 r3 r4 r5 w0 w1 w2 w3 w4 w5 w6 w7 (nI rz) (nI rv) rw rk ro rt rb wf2 wf3 wf4 wf5 wf6 wf7) (fun (u : va_W) => ∃ (rw' : Int32) (rk' : Int32) (ro' : Nat → Int64) (rt' : Nat → Int32) (rb' : Nat → Int32) (wf3' : Nat → Int64) (wf4' : Nat → Int64) (wf5' : Nat → Int64) (wf6' : Nat → Int64) (wf7' : Nat → Int64), u = (wl_kf_X2_takeBit_2 cI cJ cK xr r1 r2 r3 r4 r5 w0 w1 w2 w3 w4 w5 w6 w7 (nI rz) (nI rv) rw' rk' ro' rt' rb' wf2 wf3' wf4' wf5' wf6' wf7') ∧ True ∧ rw' = nI (min F (ru + tT rz ((rv - 1) - 2) (tP vg b rz) (oS O)))) := by
  refine ctV.of (cc := cX2_takeBit) (maxL := 4) (ret := none) (by decide) rfl (Nat.le_of_ble_eq_true rfl) ?_
  intro p e s m below meth c ls A hx hb hr hts hown hml hlocks hname hA hK hN hP hD hS hl
  have hl : lv_has ls 4 [(0, .ref xr), (1, .int 2), (2, .int (nI O)), (3, .int (nI ru))] := hl
  have hown : s.vm.findClass RX2 = some m.cls := hown
  have hi2 : ∀ w ∈ u_ws RX2 TX2 9, w ∈ wsX2_takeBit := by decide +kernel
  have fl11 := hts (.fieldLink RX2 11 "PlaneColumn$OrderSearch" "lines" "[[J") (by decide +kernel)
  have fl20 := hts (.fieldLink RX2 20 "PlaneColumn$OrderSearch" "tried" "[I") (by decide +kernel)
  have fl24 := hts (.fieldLink RX2 24 "PlaneColumn$OrderSearch" "best" "[I") (by decide +kernel)
  have fl34 := hts (.fieldLink RX2 34 "PlaneColumn$OrderSearch" "variedCount" "I") (by decide +kernel)
  have fl37 := hts (.fieldLink RX2 37 "PlaneColumn$OrderSearch" "fewest" "I") (by decide +kernel)
  refine lv_iload_n hx hb dX2_takeBit_0 rfl (lv_at hl 2 rfl) ?_
  refine lv_if_ne (tgt := 29) hx hb dX2_takeBit_1 (by decide) (fun c1 => ?_) (fun c1 => ?_)
  ·
    have d1 : ((O : Nat) : Int) ≠ (0 : Int) := my_ne c1 (nI_toInt (by omega)) (by decide +kernel)
    refine lv_iload_n hx hb dX2_takeBit_29 rfl (lv_at hl 1 rfl) ?_
    refine lv_iconst (v := 1) hx hb dX2_takeBit_30 (by decide +kernel) ?_
    refine lv_iadd hx hb dX2_takeBit_31 ?_
    refine my_eqi (y := 3) (by decide +kernel) ?_
    refine lv_bipush (v := 8) hx hb dX2_takeBit_32 (by decide +kernel) ?_
    refine lv_icmp_ge (tgt := 70) hx hb dX2_takeBit_34 (by decide) (fun c34 => ?_) (fun c34 => ?_)
    ·
      exact absurd c34 (by decide +kernel)
    ·
      refine lv_aload_n hx hb dX2_takeBit_37 rfl (lv_at hl 0 rfl) ?_
      refine lv_aload_n hx hb dX2_takeBit_38 rfl (lv_at hl 0 rfl) ?_
      refine va_get (ci := 2) (v := .ref r1) (C := RX2) (T := TX2) (N := 9) hx hb hts hi2 hown hK hP 0 rfl rfl 0 (by decide) fl11 (fun _ h9 => h9) rfl dX2_takeBit_39 ?_
      refine lv_iload_n hx hb dX2_takeBit_42 rfl (lv_at hl 1 rfl) ?_
      refine my_aald hx hb hK hP 1 rfl (vp_in_nI (n := 2) (by omega) (by omega)) dX2_takeBit_43 ?_
      refine my_eqa (y := .ref w2) (by rw [show (2 : Int32).toNatClampNeg = 2 by decide +kernel]; rfl) ?_
      refine lv_aload_n hx hb dX2_takeBit_44 rfl (lv_at hl 0 rfl) ?_
      refine va_get (ci := 2) (v := .ref r1) (C := RX2) (T := TX2) (N := 9) hx hb hts hi2 hown hK hP 0 rfl rfl 0 (by decide) fl11 (fun _ h9 => h9) rfl dX2_takeBit_45 ?_
      refine lv_iload_n hx hb dX2_takeBit_48 rfl (lv_at hl 1 rfl) ?_
      refine lv_iconst (v := 1) hx hb dX2_takeBit_49 (by decide +kernel) ?_
      refine lv_iadd hx hb dX2_takeBit_50 ?_
      refine my_eqi (y := 3) (by decide +kernel) ?_
      refine my_aald hx hb hK hP 1 rfl (vp_in_nI (n := 3) (by omega) (by omega)) dX2_takeBit_51 ?_
      refine my_eqa (y := .ref w3) (by rw [show (3 : Int32).toNatClampNeg = 3 by decide +kernel]; rfl) ?_
      refine lv_aload_n hx hb dX2_takeBit_52 rfl (lv_at hl 0 rfl) ?_
      refine va_get (ci := 2) (v := .ref r3) (C := RX2) (T := TX2) (N := 9) hx hb hts hi2 hown hK hP 0 rfl rfl 2 (by decide) fl20 (fun _ h9 => h9) rfl dX2_takeBit_53 ?_
      refine lv_iload_n hx hb dX2_takeBit_56 rfl (lv_at hl 1 rfl) ?_
      refine va_iald hx hb hK hP 3 0 rfl rfl (vp_in_nI (n := 2) (by omega) (by omega)) dX2_takeBit_57 ?_
      refine my_eqi (y := nI b) ((congrArg rt (show (2 : Int32).toNatClampNeg = 2 by decide +kernel)).trans hrt) ?_
      refine my_goVS (wc := (wl_kf_X2_part cI cJ cK xr r1 r2 r3 r4 r5 w2 w3 (nI rz) (nI rv) rw rk ro wf2 wf3)) hP hD hS hA [0, 2, 5, 6] rfl [some 0, none, some 1, none, none, some 2, some 3] (by decide +kernel) (my_cV (As := [.ref w2, .ref w3, .int (nI b)]) (rest := []) (ci := 2) (wc := (wl_kf_X2_part cI cJ cK xr r1 r2 r3 r4 r5 w2 w3 (nI rz) (nI rv) rw rk ro wf2 wf3)) ⟨hx, hb, hml, hown, hts⟩ (cwV 3 hts gX2_takeBit_X2_part rfl rfl rfl (by decide +kernel) ⟨Nat.le_of_ble_eq_true rfl, Nat.le_of_ble_eq_true rfl⟩) hN hK hP hD [0, 2, 5, 6] rfl (by decide) rfl 0 rfl rfl rfl rfl hl.1 rfl (Nat.le_of_ble_eq_true rfl) dX2_takeBit_58 ⟨Nat.le_of_ble_eq_true rfl, Nat.le_of_ble_eq_true rfl⟩  ((kf_X2_part l D cI cJ cK xr r1 r2 r3 r4 r5 w2 w3 rz rv rw rk ro wf2 wf3 b vg (by first | assumption | omega | decide +kernel) (by first | assumption | omega | decide +kernel) (by first | assumption | omega | decide +kernel) (by first | assumption | omega | decide +kernel)) _)) (fun u H locs hp hPD hS => ?_)
      obtain ⟨ro_1, wfb_2, rfl, hpl, ht_3⟩ := hp
      obtain ⟨hP, hD⟩ := hPD rfl
      have hP : va_P D vwCl (wl_kf_X2_takeBit_2 cI cJ cK xr r1 r2 r3 r4 r5 w0 w1 w2 w3 w4 w5 w6 w7 (nI rz) (nI rv) rw rk ro_1 rt rb wf2 wfb_2 wf4 wf5 wf6 wf7) H := hP
      have hD : va_D A (wl_kf_X2_takeBit_2 cI cJ cK xr r1 r2 r3 r4 r5 w0 w1 w2 w3 w4 w5 w6 w7 (nI rz) (nI rv) rw rk ro_1 rt rb wf2 wfb_2 wf4 wf5 wf6 wf7) := hD
      refine lv_aload_n hx hb dX2_takeBit_61 rfl (lv_at hl 0 rfl) ?_
      refine lv_iload_n hx hb dX2_takeBit_62 rfl (lv_at hl 1 rfl) ?_
      refine lv_iconst (v := 1) hx hb dX2_takeBit_63 (by decide +kernel) ?_
      refine lv_iadd hx hb dX2_takeBit_64 ?_
      refine my_eqi (y := 3) (by decide +kernel) ?_
      refine lv_iload_n hx hb dX2_takeBit_65 rfl (lv_at hl 2 rfl) ?_
      refine lv_iload_n hx hb dX2_takeBit_66 rfl (lv_at hl 3 rfl) ?_
      refine my_goVS (wc := (wl_kf_X2_tryBits_3 cI cJ cK xr r1 r2 r3 r4 r5 w0 w1 w2 w3 w4 w5 w6 w7 (nI rz) (nI rv) rw rk ro_1 rt rb wfb_2 wf4 wf5 wf6 wf7)) hP hD hS hA [0, 1, 2, 3, 4, 6, 7, 8, 9, 10] rfl [some 0, some 1, some 2, some 3, some 4, none, some 5, some 6, some 7, some 8, some 9] (by decide +kernel) (my_cV (As := [.int 3, .int (nI O), .int (nI ru)]) (rest := []) (ci := 2) (wc := (wl_kf_X2_tryBits_3 cI cJ cK xr r1 r2 r3 r4 r5 w0 w1 w2 w3 w4 w5 w6 w7 (nI rz) (nI rv) rw rk ro_1 rt rb wfb_2 wf4 wf5 wf6 wf7)) ⟨hx, hb, hml, hown, hts⟩ (cwV 3 hts gX2_takeBit_X2_tryBits rfl rfl rfl (by decide +kernel) ⟨Nat.le_of_ble_eq_true rfl, Nat.le_of_ble_eq_true rfl⟩) hN hK hP hD [0, 1, 2, 3, 4, 6, 7, 8, 9, 10] rfl (by decide) rfl 0 rfl rfl rfl rfl hl.1 rfl (Nat.le_of_ble_eq_true rfl) dX2_takeBit_67 ⟨Nat.le_of_ble_eq_true rfl, Nat.le_of_ble_eq_true rfl⟩  ((kf_X2_tryBits_3 l D cI cJ cK xr r1 r2 r3 r4 r5 w0 w1 w2 w3 w4 w5 w6 w7 rz rv rw rk ro_1 rt rb wfb_2 wf4 wf5 wf6 wf7 O ru F (tP vg b rz) (by first | assumption | omega | decide +kernel) (by first | assumption | omega | decide +kernel) (by first | assumption | omega | decide +kernel) (by first | assumption | omega | decide +kernel) (by first | assumption | omega | decide +kernel) (by first | assumption | omega | decide +kernel) (hpl) (tP_8 hv8) (fun c hc hs => tV_p.mpr (hvr c hc hs)) (by first | assumption | omega | decide +kernel) (Or.inl (by have h9 := oS_pos hO (by omega); omega))) _)) (fun u H locs hp hPD hS => ?_)
      obtain ⟨rw_4, rk_5, ro_6, rt_7, rb_8, wf4_9, wf5_10, wf6_11, wf7_12, rfl, ht_13, hfw1⟩ := hp
      obtain ⟨hP, hD⟩ := hPD rfl
      have hP : va_P D vwCl (wl_kf_X2_takeBit_2 cI cJ cK xr r1 r2 r3 r4 r5 w0 w1 w2 w3 w4 w5 w6 w7 (nI rz) (nI rv) rw_4 rk_5 ro_6 rt_7 rb_8 wf2 wfb_2 wf4_9 wf5_10 wf6_11 wf7_12) H := hP
      have hD : va_D A (wl_kf_X2_takeBit_2 cI cJ cK xr r1 r2 r3 r4 r5 w0 w1 w2 w3 w4 w5 w6 w7 (nI rz) (nI rv) rw_4 rk_5 ro_6 rt_7 rb_8 wf2 wfb_2 wf4_9 wf5_10 wf6_11 wf7_12) := hD
      exact my_retV hx hb hr hlocks hK hS (wl_kf_X2_takeBit_2 cI cJ cK xr r1 r2 r3 r4 r5 w0 w1 w2 w3 w4 w5 w6 w7 (nI rz) (nI rv) rw_4 rk_5 ro_6 rt_7 rb_8 wf2 wfb_2 wf4_9 wf5_10 wf6_11 wf7_12) hP hD (⟨rw_4, rk_5, ro_6, rt_7, rb_8, wfb_2, wf4_9, wf5_10, wf6_11, wf7_12, rfl, (by first | assumption | omega | trivial | decide +kernel), (by first | exact tk_0 (by omega) (by omega) hru | (rw [show ((rv - 1) - 2) = rv - 3 from (by omega)]; exact hfw1) | (exfalso; have h9 := oS_pos hO (by omega); omega))⟩) dX2_takeBit_70
  ·
    have d1 : ((O : Nat) : Int) = (0 : Int) := my_eq c1 (nI_toInt (by omega)) (by decide +kernel)
    refine lv_aload_n hx hb dX2_takeBit_4 rfl (lv_at hl 0 rfl) ?_
    refine lv_iload_n hx hb dX2_takeBit_5 rfl (lv_at hl 3 rfl) ?_
    refine va_put (ci := 2) (v := .int (nI ru)) (ty := (.int)) (C := RX2) (T := TX2) (N := 9) hx hb hts hi2 tyX2 tyX2_ok nmX2 hown hK hP hD hS 0 rfl rfl 7 (by decide) fl37 (fun _ h9 => h9) rfl (by decide +kernel) rfl rfl (Nat.le_of_ble_eq_true rfl) dX2_takeBit_6 (fun H locs hP hD hS => ?_)
    have hP : va_P D vwCl (wl_kf_X2_takeBit_2 cI cJ cK xr r1 r2 r3 r4 r5 w0 w1 w2 w3 w4 w5 w6 w7 (nI rz) (nI rv) (nI ru) rk ro rt rb wf2 wf3 wf4 wf5 wf6 wf7) H := hP
    have hD : va_D A (wl_kf_X2_takeBit_2 cI cJ cK xr r1 r2 r3 r4 r5 w0 w1 w2 w3 w4 w5 w6 w7 (nI rz) (nI rv) (nI ru) rk ro rt rb wf2 wf3 wf4 wf5 wf6 wf7) := hD
    refine lv_aload_n hx hb dX2_takeBit_9 rfl (lv_at hl 0 rfl) ?_
    refine va_get (ci := 2) (v := .ref r3) (C := RX2) (T := TX2) (N := 9) hx hb hts hi2 hown hK hP 0 rfl rfl 2 (by decide) fl20 (fun _ h9 => h9) rfl dX2_takeBit_10 ?_
    refine lv_iconst (v := 0) hx hb dX2_takeBit_13 (by decide +kernel) ?_
    refine lv_aload_n hx hb dX2_takeBit_14 rfl (lv_at hl 0 rfl) ?_
    refine va_get (ci := 2) (v := .ref r4) (C := RX2) (T := TX2) (N := 9) hx hb hts hi2 hown hK hP 0 rfl rfl 3 (by decide) fl24 (fun _ h9 => h9) rfl dX2_takeBit_15 ?_
    refine lv_iconst (v := 0) hx hb dX2_takeBit_18 (by decide +kernel) ?_
    refine lv_aload_n hx hb dX2_takeBit_19 rfl (lv_at hl 0 rfl) ?_
    refine va_get (ci := 2) (v := .int (nI rv)) (C := RX2) (T := TX2) (N := 9) hx hb hts hi2 hown hK hP 0 rfl rfl 6 (by decide) fl34 (fun _ h9 => h9) rfl dX2_takeBit_20 ?_
    refine va_copyi hx hb (hml.trans hl.1.symm) hown (hts (.methodLink RX2 75 arraycopyName) (by decide +kernel)) (hts (.native arraycopyName) (by decide +kernel)) (hts (.static arraycopyName) (by decide +kernel)) (hts (.initialized "java/lang/System") (by decide +kernel)) hK hP hD hS 3 4 0 0 rfl rfl rfl rfl rfl (by decide +kernel) (by decide +kernel) (nI_nneg (by omega)) (by rw [show (0 : Int32).toNatClampNeg = 0 from (by decide +kernel), show (nI rv : Int32).toNatClampNeg = rv from (nI_clamp (by omega))]; omega) (by rw [show (0 : Int32).toNatClampNeg = 0 from (by decide +kernel), show (nI rv : Int32).toNatClampNeg = rv from (nI_clamp (by omega))]; omega) (fun _ _ => rfl) (Nat.le_of_ble_eq_true rfl) (Nat.le_of_ble_eq_true rfl) dX2_takeBit_23 (fun H locs hP hD hS => ?_)
    obtain ⟨g_14, eg_14⟩ : ∃ g : Nat → Int32, g = va_cpy rt rb 0 0 rv := ⟨_, rfl⟩
    have eU : va_cpy rt rb (0 : Int32).toNatClampNeg (0 : Int32).toNatClampNeg (nI rv : Int32).toNatClampNeg = g_14 := by rw [eg_14, show (0 : Int32).toNatClampNeg = 0 from (by decide +kernel), show (nI rv : Int32).toNatClampNeg = rv from (nI_clamp (by omega))]
    rw [eU] at hP hD
    have hP : va_P D vwCl (wl_kf_X2_takeBit_2 cI cJ cK xr r1 r2 r3 r4 r5 w0 w1 w2 w3 w4 w5 w6 w7 (nI rz) (nI rv) (nI ru) rk ro rt g_14 wf2 wf3 wf4 wf5 wf6 wf7) H := hP
    have hD : va_D A (wl_kf_X2_takeBit_2 cI cJ cK xr r1 r2 r3 r4 r5 w0 w1 w2 w3 w4 w5 w6 w7 (nI rz) (nI rv) (nI ru) rk ro rt g_14 wf2 wf3 wf4 wf5 wf6 wf7) := hD
    refine lv_goto (tgt := 70) hx hb dX2_takeBit_26 (by decide) ?_
    exact my_retV hx hb hr hlocks hK hS (wl_kf_X2_takeBit_2 cI cJ cK xr r1 r2 r3 r4 r5 w0 w1 w2 w3 w4 w5 w6 w7 (nI rz) (nI rv) (nI ru) rk ro rt g_14 wf2 wf3 wf4 wf5 wf6 wf7) hP hD (⟨(nI ru), rk, ro, rt, g_14, wf3, wf4, wf5, wf6, wf7, rfl, (by first | assumption | omega | trivial | decide +kernel), (by first | exact tk_0 (by omega) (by omega) hru | (rw [show ((rv - 1) - 2) = rv - 3 from (by omega)]; exact hfw1) | (exfalso; have h9 := oS_pos hO (by omega); omega))⟩) dX2_takeBit_70
abbrev wl_kf_X2_tryBits_2 (cI cJ cK : ClassId) (xr : Nat) (r1 : Nat) (r2 : Nat) (r3 : Nat) (r4 : Nat) (r5 : Nat) (w0 : Nat) (w1 : Nat) (w2 : Nat) (w3 : Nat) (w4 : Nat) (w5 : Nat) (w6 : Nat) (w7 : Nat) (v0_ : Int32) (v1_ : Int32) (v2_ : Int32) (v3_ : Int32) (v4_ : Nat → Int64) (v5_ : Nat → Int32) (v6_ : Nat → Int32) (v7_ : Nat → Int64) (v8_ : Nat → Int64) (v9_ : Nat → Int64) (v10_ : Nat → Int64) (v11_ : Nat → Int64) (v12_ : Nat → Int64) : va_W := [(xr, .inr (2, [.ref r1, .ref r2, .ref r3, .ref r4, .ref r5, .int v0_, .int v1_, .int v2_, .int v3_])), (r1, .inl (cK, 8, .inr (.inr (.inr (.inr (fun j => ([w0, w1, w2, w3, w4, w5, w6, w7] : List Nat)[j]?)))))), (r2, .inl (cJ, 64, .inr (.inl v4_))), (r3, .inl (cI, 8, .inl v5_)), (r4, .inl (cI, 8, .inl v6_)), (w2, .inl (cJ, 64, .inr (.inl v7_))), (w3, .inl (cJ, 64, .inr (.inl v8_))), (w4, .inl (cJ, 64, .inr (.inl v9_))), (w5, .inl (cJ, 64, .inr (.inl v10_))), (w6, .inl (cJ, 64, .inr (.inl v11_))), (w7, .inl (cJ, 64, .inr (.inl v12_)))]
set_option maxHeartbeats 4000000 in
set_option maxRecDepth 100000 in
theorem kf_X2_tryBits_2 (l : Launch) (D : va_G) (cI cJ cK : ClassId) (xr : Nat) (r1 : Nat) (r2 : Nat) (r3 : Nat) (r4 : Nat) (r5 : Nat) (w0 : Nat) (w1 : Nat) (w2 : Nat) (w3 : Nat) (w4 : Nat) (w5 : Nat) (w6 : Nat) (w7 : Nat) (rz : Nat) (rv : Nat) (rw : Int32) (rk : Int32) (ro : Nat → Int64) (rt : Nat → Int32) (rb : Nat → Int32) (wf2 : Nat → Int64) (wf3 : Nat → Int64) (wf4 : Nat → Int64) (wf5 : Nat → Int64) (wf6 : Nat → Int64) (wf7 : Nat → Int64) (O : Nat) (ra : Nat) (F : Nat) (vg : Nat → Nat) (hz_rz : rz ≤ 64) (hz_rv : rv ≤ 8) (hO : O < 256) (hra : ra ≤ 128) (hF : F ≤ 513) (hfw : rw = nI F) (hln : ∀ i, i < rz → wf2 i = lN (laN (vg i))) (hv8 : ∀ i, i < rz → vg i < 256) (hvr : ∀ c, c < 8 → oS O c = true → tV vg rz c) (hcd : tC (oS O) + 2 = rv) (hj0 : 2 < rv ∨ F = 0) : ctV l yX2_tryBits wsX2_tryBits ({ frames := 13, cells := 0, slots := 0, locals := 780 } : Room) D (tyIJ cI cJ cK) [.ref xr, .int 2, .int (nI O), .int (nI ra)] (wl_kf_X2_tryBits_2 cI cJ cK xr r1 r2 r3 r4 r5 w0 w1 w2 w3 w4 w5 w6 w7 (nI rz) (nI rv) rw rk ro rt rb wf2 wf3 wf4 wf5 wf6 wf7) (fun (u : va_W) => ∃ (rw' : Int32) (rk' : Int32) (ro' : Nat → Int64) (rt' : Nat → Int32) (rb' : Nat → Int32) (wf3' : Nat → Int64) (wf4' : Nat → Int64) (wf5' : Nat → Int64) (wf6' : Nat → Int64) (wf7' : Nat → Int64), u = (wl_kf_X2_tryBits_2 cI cJ cK xr r1 r2 r3 r4 r5 w0 w1 w2 w3 w4 w5 w6 w7 (nI rz) (nI rv) rw' rk' ro' rt' rb' wf2 wf3' wf4' wf5' wf6' wf7') ∧ True ∧ rw' = nI (min F (ra + tT rz (rv - 2) vg (oS O)))) := by
  refine ctV.of (cc := cX2_tryBits) (maxL := 9) (ret := none) (by decide) rfl (Nat.le_of_ble_eq_true rfl) ?_
  intro p e s m below meth c ls A hx hb hr hts hown hml hlocks hname hA hK hN hP hD hS hl
  have hl : lv_has ls 9 [(0, .ref xr), (1, .int 2), (2, .int (nI O)), (3, .int (nI ra))] := hl
  have hown : s.vm.findClass RX2 = some m.cls := hown
  have hi2 : ∀ w ∈ u_ws RX2 TX2 9, w ∈ wsX2_tryBits := by decide +kernel
  have fl11 := hts (.fieldLink RX2 11 "PlaneColumn$OrderSearch" "lines" "[[J") (by decide +kernel)
  have fl20 := hts (.fieldLink RX2 20 "PlaneColumn$OrderSearch" "tried" "[I") (by decide +kernel)
  have fl34 := hts (.fieldLink RX2 34 "PlaneColumn$OrderSearch" "variedCount" "I") (by decide +kernel)
  have fl37 := hts (.fieldLink RX2 37 "PlaneColumn$OrderSearch" "fewest" "I") (by decide +kernel)
  refine lv_iload_n hx hb dX2_tryBits_0 rfl (lv_at hl 1 rfl) ?_
  refine lv_aload_n hx hb dX2_tryBits_1 rfl (lv_at hl 0 rfl) ?_
  refine va_get (ci := 2) (v := .int (nI rv)) (C := RX2) (T := TX2) (N := 9) hx hb hts hi2 hown hK hP 0 rfl rfl 6 (by decide) fl34 (fun _ h9 => h9) rfl dX2_tryBits_2 ?_
  refine lv_icmp_ge (tgt := 14) hx hb dX2_tryBits_5 (by decide) (fun c5 => ?_) (fun c5 => ?_)
  ·
    have d5 : (2 : Int) ≥ ((rv : Nat) : Int) := my_ge c5 (by decide +kernel) (nI_toInt (by omega))
    exact my_retV hx hb hr hlocks hK hS (wl_kf_X2_tryBits_2 cI cJ cK xr r1 r2 r3 r4 r5 w0 w1 w2 w3 w4 w5 w6 w7 (nI rz) (nI rv) rw rk ro rt rb wf2 wf3 wf4 wf5 wf6 wf7) hP hD (⟨rw, rk, ro, rt, rb, wf3, wf4, wf5, wf6, wf7, rfl, (by first | assumption | omega | trivial | decide +kernel), (by first | exact tc_end hfw2 (by omega) (by omega) | exact tc_no hfw (by omega))⟩) dX2_tryBits_14
  ·
    have d5 : (2 : Int) < ((rv : Nat) : Int) := my_nge c5 (by decide +kernel) (nI_toInt (by omega))
    refine lv_iload_n hx hb dX2_tryBits_8 rfl (lv_at hl 1 rfl) ?_
    refine lv_bipush (v := 8) hx hb dX2_tryBits_9 (by decide +kernel) ?_
    refine lv_icmp_lt (tgt := 15) hx hb dX2_tryBits_11 (by decide) (fun c11 => ?_) (fun c11 => ?_)
    ·
      refine lv_aload_n hx hb dX2_tryBits_15 rfl (lv_at hl 0 rfl) ?_
      refine lv_aload_n hx hb dX2_tryBits_16 rfl (lv_at hl 0 rfl) ?_
      refine va_get (ci := 2) (v := .ref r1) (C := RX2) (T := TX2) (N := 9) hx hb hts hi2 hown hK hP 0 rfl rfl 0 (by decide) fl11 (fun _ h9 => h9) rfl dX2_tryBits_17 ?_
      refine lv_iload_n hx hb dX2_tryBits_20 rfl (lv_at hl 1 rfl) ?_
      refine my_aald hx hb hK hP 1 rfl (vp_in_nI (n := 2) (by omega) (by omega)) dX2_tryBits_21 ?_
      refine my_eqa (y := .ref w2) (by rw [show (2 : Int32).toNatClampNeg = 2 by decide +kernel]; rfl) ?_
      refine my_gpL (my_pV (As := [.ref w2]) (rest := []) (ci := 2) ⟨hx, hb, hml, hown, hts⟩ (cwV 1 hts gX2_tryBits_X2_changesOf rfl rfl rfl (by decide +kernel) ⟨Nat.le_of_ble_eq_true rfl, Nat.le_of_ble_eq_true rfl⟩) hN hK hP [0, 5] rfl 0 rfl rfl rfl rfl hl.1 rfl (Nat.le_of_ble_eq_true rfl) dX2_tryBits_22 ⟨Nat.le_of_ble_eq_true rfl, Nat.le_of_ble_eq_true rfl⟩  (kf_X2_changesOf l D cI cJ cK xr r1 r2 r3 r4 r5 w2 rz rv rw rk wf2 vg (by first | assumption | omega | decide +kernel) (by first | assumption | omega | decide +kernel) (by first | assumption | omega | decide +kernel) (by first | assumption | omega | decide +kernel))) (fun r hp => ?_)
      obtain ⟨c_1, rfl, hcc, ht_2⟩ := hp
      refine lv_lstore (lv' := [(4, .long (lN c_1)), (0, .ref xr), (1, .int 2), (2, .int (nI O)), (3, .int (nI ra))]) hx hb dX2_tryBits_25 hl (by decide) rfl (fun ls hl => ?_)
      refine lv_iconst (v := 2) hx hb dX2_tryBits_27 (by decide +kernel) ?_
      refine lv_aload_n hx hb dX2_tryBits_28 rfl (lv_at hl 1 rfl) ?_
      refine va_get (ci := 2) (v := .int (nI rv)) (C := RX2) (T := TX2) (N := 9) hx hb hts hi2 hown hK hP 0 rfl rfl 6 (by decide) fl34 (fun _ h9 => h9) rfl dX2_tryBits_29 ?_
      refine lv_iconst (v := 1) hx hb dX2_tryBits_32 (by decide +kernel) ?_
      refine lv_isub hx hb dX2_tryBits_33 ?_
      refine my_eqi (y := nI (rv - 1)) (my_subN (a := rv) (b := 1) (by omega)) ?_
      refine lv_iload_n hx hb dX2_tryBits_34 rfl (lv_at hl 2 rfl) ?_
      refine lv_isub hx hb dX2_tryBits_35 ?_
      refine my_eqi (y := nI ((rv - 1) - 2)) (my_subN (a := rv - 1) (b := 2) (by omega)) ?_
      refine lv_imul hx hb dX2_tryBits_36 ?_
      refine my_eqi (y := nI (2 * ((rv - 1) - 2))) (my_mulN _ _) ?_
      refine lv_istore (lv' := [(6, .int (nI (2 * ((rv - 1) - 2)))), (4, .long (lN c_1)), (0, .ref xr), (1, .int 2), (2, .int (nI O)), (3, .int (nI ra))]) hx hb dX2_tryBits_37 hl (by decide) rfl (fun ls hl => ?_)
      refine lv_bipush (v := 7) hx hb dX2_tryBits_39 (by decide +kernel) ?_
      refine lv_istore (lv' := [(7, .int 7), (6, .int (nI (2 * ((rv - 1) - 2)))), (4, .long (lN c_1)), (0, .ref xr), (1, .int 2), (2, .int (nI O)), (3, .int (nI ra))]) hx hb dX2_tryBits_41 hl (by decide) rfl (fun ls hl => ?_)
      have loop43 : ∀ (n9 : Nat) (x : Int32) (xr_fewest_43 : Int32) (xr_known_43 : Int32) (r2_43 : Nat → Int64) (r3_43 : Nat → Int32) (r4_43 : Nat → Int32) (w3_43 : Nat → Int64) (w4_43 : Nat → Int64) (w5_43 : Nat → Int64) (w6_43 : Nat → Int64) (w7_43 : Nat → Int64), (x.toInt + 1).toNat < n9 → (-1 ≤ x.toInt) → (x.toInt ≤ 7) → (xr_fewest_43 = nI (min F (ra + tM (tF rz ((rv - 1) - 2) vg (oS O)) (oS O) (7 - x.toInt).toNat))) → ∀ (H : Heap) (locs : List Loc) (ls : Array Slot), va_P D vwCl (wl_kf_X2_tryBits_2 cI cJ cK xr r1 r2 r3 r4 r5 w0 w1 w2 w3 w4 w5 w6 w7 (nI rz) (nI rv) xr_fewest_43 xr_known_43 r2_43 r3_43 r4_43 wf2 w3_43 w4_43 w5_43 w6_43 w7_43) H → va_D A (wl_kf_X2_tryBits_2 cI cJ cK xr r1 r2 r3 r4 r5 w0 w1 w2 w3 w4 w5 w6 w7 (nI rz) (nI rv) xr_fewest_43 xr_known_43 r2_43 r3_43 r4_43 wf2 w3_43 w4_43 w5_43 w6_43 w7_43) → va_S A s.heap H locs → lv_has ls 9 [(7, .int x), (6, .int (nI (2 * ((rv - 1) - 2)))), (4, .long (lN c_1)), (0, .ref xr), (1, .int 2), (2, .int (nI O)), (3, .int (nI ra))] → W p l e ({ frames := 13, cells := 0, slots := 0, locals := 780 } : Room) s m [.ref xr, .int 2, .int (nI O), .int (nI ra)].toArray below meth c H locs 0 0 (MQ below (va_Qv (fun (u : va_W) => ∃ (rw' : Int32) (rk' : Int32) (ro' : Nat → Int64) (rt' : Nat → Int32) (rb' : Nat → Int32) (wf3' : Nat → Int64) (wf4' : Nat → Int64) (wf5' : Nat → Int64) (wf6' : Nat → Int64) (wf7' : Nat → Int64), u = (wl_kf_X2_tryBits_2 cI cJ cK xr r1 r2 r3 r4 r5 w0 w1 w2 w3 w4 w5 w6 w7 (nI rz) (nI rv) rw' rk' ro' rt' rb' wf2 wf3' wf4' wf5' wf6' wf7') ∧ True ∧ rw' = nI (min F (ra + tT rz (rv - 2) vg (oS O)))) (my_B D (tyIJ cI cJ cK) A) A) [.ref xr, .int 2, .int (nI O), .int (nI ra)].toArray s 0 0 A) (F0 m 43 ls []) := by
        intro n9
        induction n9 with
        | zero =>
          intro x xr_fewest_43 xr_known_43 r2_43 r3_43 r4_43 w3_43 w4_43 w5_43 w6_43 w7_43 hn9
          exact absurd hn9 (Nat.not_lt_zero _)
        | succ n9 ih43 =>
          intro x xr_fewest_43 xr_known_43 r2_43 r3_43 r4_43 w3_43 w4_43 w5_43 w6_43 w7_43 hn9 hx0 hx1 hfw2 H locs ls hP hD hS hl
          have hfi : xr_fewest_43.toInt = (((min F (ra + tM (tF rz ((rv - 1) - 2) vg (oS O)) (oS O) (7 - x.toInt).toNat)) : Nat) : Int) := by rw [hfw2]; exact nI_toInt (by omega)
          refine lv_iload hx hb dX2_tryBits_43 (lv_at hl 0 rfl) ?_
          refine lv_if_lt (tgt := 117) hx hb dX2_tryBits_45 (by decide) (fun c45 => ?_) (fun c45 => ?_)
          ·
            have d45 : x.toInt < (0 : Int) := my_lt c45 rfl (by decide +kernel)
            exact my_retV hx hb hr hlocks hK hS (wl_kf_X2_tryBits_2 cI cJ cK xr r1 r2 r3 r4 r5 w0 w1 w2 w3 w4 w5 w6 w7 (nI rz) (nI rv) xr_fewest_43 xr_known_43 r2_43 r3_43 r4_43 wf2 w3_43 w4_43 w5_43 w6_43 w7_43) hP hD (⟨xr_fewest_43, xr_known_43, r2_43, r3_43, r4_43, w3_43, w4_43, w5_43, w6_43, w7_43, rfl, (by first | assumption | omega | trivial | decide +kernel), (by first | exact tc_end hfw2 (by omega) (by omega) | exact tc_no hfw (by omega))⟩) dX2_tryBits_117
          ·
            have d45 : x.toInt ≥ (0 : Int) := my_nlt c45 rfl (by decide +kernel)
            obtain ⟨w_3, rfl, hw_3⟩ := my_natP (x := x) (by omega)
            refine lv_iload_n hx hb dX2_tryBits_48 rfl (lv_at hl 6 rfl) ?_
            refine lv_iconst (v := 1) hx hb dX2_tryBits_49 (by decide +kernel) ?_
            refine lv_iadd hx hb dX2_tryBits_50 ?_
            refine my_eqi (y := nI (ra + 1)) (my_addN ra 1) ?_
            refine lv_lload hx hb dX2_tryBits_51 (lv_at hl 2 rfl) ?_
            refine lv_bipush (v := 8) hx hb dX2_tryBits_53 (by decide +kernel) ?_
            refine lv_iload hx hb dX2_tryBits_55 (lv_at hl 0 rfl) ?_
            refine lv_imul hx hb dX2_tryBits_57 ?_
            refine my_eqi (y := nI (8 * w_3)) (my_mulN _ _) ?_
            have hclt : c_1 < 18446744073709551616 := by rw [hcc]; exact chS_lt vg hz_rz
            refine lv_lushr (v := lN (c_1 / 256 ^ w_3)) hx hb dX2_tryBits_58 (ush_8 hclt (by omega)) ?_
            refine lv_ldc2 (v := 255) hx hb hown (hts (.constantLong RX2 70 (255)) (by decide +kernel)) dX2_tryBits_59 ?_
            refine lv_land hx hb dX2_tryBits_62 ?_
            refine my_eql (y := lN (c_1 / 256 ^ w_3 % 256)) (and_255 (Nat.lt_of_le_of_lt (Nat.div_le_self _ _) hclt)) ?_
            refine lv_l2i (v := nI (c_1 / 256 ^ w_3 % 256)) hx hb dX2_tryBits_63 (l2i_N (by omega)) ?_
            refine lv_iadd hx hb dX2_tryBits_64 ?_
            refine my_eqi (y := nI (ra + 1 + c_1 / 256 ^ w_3 % 256)) (nI_add _ _) ?_
            refine lv_istore (lv' := [(8, .int (nI (ra + 1 + c_1 / 256 ^ w_3 % 256))), (7, .int (nI w_3)), (6, .int (nI (2 * ((rv - 1) - 2)))), (4, .long (lN c_1)), (0, .ref xr), (1, .int 2), (2, .int (nI O)), (3, .int (nI ra))]) hx hb dX2_tryBits_65 hl (by decide) rfl (fun ls hl => ?_)
            refine lv_iload_n hx hb dX2_tryBits_67 rfl (lv_at hl 6 rfl) ?_
            refine lv_iload hx hb dX2_tryBits_68 (lv_at hl 1 rfl) ?_
            refine lv_ishr hx hb dX2_tryBits_70 ?_
            refine my_eqi (y := nI (O / 2 ^ w_3)) (my_shrG (by omega) (by omega)) ?_
            refine lv_iconst (v := 1) hx hb dX2_tryBits_71 (by decide +kernel) ?_
            refine lv_iand hx hb dX2_tryBits_72 ?_
            refine my_eqi (y := nI ((O / 2 ^ w_3) % 2)) (my_maskN _ 1) ?_
            refine lv_if_eq (tgt := 111) hx hb dX2_tryBits_73 (by decide) (fun c73 => ?_) (fun c73 => ?_)
            ·
              have d73 : (((O / 2 ^ w_3) % 2 : Nat) : Int) = (0 : Int) := my_eq c73 (nI_toInt (by omega)) (by decide +kernel)
              obtain ⟨z_4, ez_4⟩ : ∃ y : Int32, y = nI w_3 + (-1) := ⟨_, rfl⟩
              try have tz_4 : z_4.toInt = ((w_3 : Nat) : Int) + (-1) := by rw [ez_4]; exact my_addI (nI_toInt (by omega)) (by decide +kernel) (by omega) (by omega)
              refine lv_iinc (v := z_4) (lv' := [(7, .int z_4), (8, .int (nI (ra + 1 + c_1 / 256 ^ w_3 % 256))), (6, .int (nI (2 * ((rv - 1) - 2)))), (4, .long (lN c_1)), (0, .ref xr), (1, .int 2), (2, .int (nI O)), (3, .int (nI ra))]) hx hb dX2_tryBits_111 hl (k := 1) rfl (by rw [ez_4]; rfl) (by decide) rfl (fun ls hl => ?_)
              refine lv_goto (tgt := 43) hx hb dX2_tryBits_114 (by decide) ?_
              exact ih43  z_4 xr_fewest_43 xr_known_43 r2_43 r3_43 r4_43 w3_43 w4_43 w5_43 w6_43 w7_43 (by omega) (by first | assumption | omega | decide +kernel) (by first | assumption | omega | decide +kernel) (by first | exact tc_skip hfw2 (by omega) (by omega) (by omega) (os_f d73 (by omega)) | exact tc_bound hfw2 (by omega) (by omega) (by omega) (os_t d73 (by omega)) (by omega) | exact tc_done hfw1 (by omega) (by omega) (by omega) (os_t d73 (by omega)) (rm_G hO (by omega) hbt hru9 (by omega))) _ _ ls hP hD hS (lv_sub hl [0, 2, 3, 4, 5, 6, 7] rfl)
            ·
              have d73 : (((O / 2 ^ w_3) % 2 : Nat) : Int) ≠ (0 : Int) := my_ne c73 (nI_toInt (by omega)) (by decide +kernel)
              have hbt : Nat.testBit O w_3 = true := bN_t (by rw [← bn_tb]; omega)
              have hrz : 0 < rz := by obtain ⟨i9, hi9, -⟩ := hvr w_3 (by omega) hbt; omega
              have hru9 : ra + 1 + c_1 / 256 ^ w_3 % 256 = ra + rnF (tB vg w_3) rz := by rw [hcc, chS_at (by omega) hz_rz, tG_rn hrz]; omega
              have hrl := rnF_le (tB vg w_3) rz
              have hlb : rnF (tB vg w_3) rz + 2 * ((rv - 1) - 2) ≤ (tF rz ((rv - 1) - 2) vg (oS O)) (nI w_3).toInt.toNat := by rw [show (nI w_3).toInt.toNat = w_3 from (by omega)]; exact th_lb (by omega) hvr
              refine lv_iload hx hb dX2_tryBits_76 (lv_at hl 0 rfl) ?_
              refine lv_iload hx hb dX2_tryBits_78 (lv_at hl 2 rfl) ?_
              refine lv_iadd hx hb dX2_tryBits_80 ?_
              refine my_eqi (y := nI (ra + 1 + c_1 / 256 ^ w_3 % 256 + (2 * ((rv - 1) - 2)))) (nI_add _ _) ?_
              refine lv_aload_n hx hb dX2_tryBits_81 rfl (lv_at hl 4 rfl) ?_
              refine va_get (ci := 2) (v := .int xr_fewest_43) (C := RX2) (T := TX2) (N := 9) hx hb hts hi2 hown hK hP 0 rfl rfl 7 (by decide) fl37 (fun _ h9 => h9) rfl dX2_tryBits_82 ?_
              refine lv_icmp_ge (tgt := 111) hx hb dX2_tryBits_85 (by decide) (fun c85 => ?_) (fun c85 => ?_)
              ·
                have d85 : ((ra + 1 + c_1 / 256 ^ w_3 % 256 + (2 * ((rv - 1) - 2)) : Nat) : Int) ≥ xr_fewest_43.toInt := my_ge c85 (nI_toInt (by omega)) rfl
                obtain ⟨z_5, ez_5⟩ : ∃ y : Int32, y = nI w_3 + (-1) := ⟨_, rfl⟩
                try have tz_5 : z_5.toInt = ((w_3 : Nat) : Int) + (-1) := by rw [ez_5]; exact my_addI (nI_toInt (by omega)) (by decide +kernel) (by omega) (by omega)
                refine lv_iinc (v := z_5) (lv' := [(7, .int z_5), (8, .int (nI (ra + 1 + c_1 / 256 ^ w_3 % 256))), (6, .int (nI (2 * ((rv - 1) - 2)))), (4, .long (lN c_1)), (0, .ref xr), (1, .int 2), (2, .int (nI O)), (3, .int (nI ra))]) hx hb dX2_tryBits_111 hl (k := 1) rfl (by rw [ez_5]; rfl) (by decide) rfl (fun ls hl => ?_)
                refine lv_goto (tgt := 43) hx hb dX2_tryBits_114 (by decide) ?_
                exact ih43  z_5 xr_fewest_43 xr_known_43 r2_43 r3_43 r4_43 w3_43 w4_43 w5_43 w6_43 w7_43 (by omega) (by first | assumption | omega | decide +kernel) (by first | assumption | omega | decide +kernel) (by first | exact tc_skip hfw2 (by omega) (by omega) (by omega) (os_f d73 (by omega)) | exact tc_bound hfw2 (by omega) (by omega) (by omega) (os_t d73 (by omega)) (by omega) | exact tc_done hfw1 (by omega) (by omega) (by omega) (os_t d73 (by omega)) (rm_G hO (by omega) hbt hru9 (by omega))) _ _ ls hP hD hS (lv_sub hl [0, 2, 3, 4, 5, 6, 7] rfl)
              ·
                have d85 : ((ra + 1 + c_1 / 256 ^ w_3 % 256 + (2 * ((rv - 1) - 2)) : Nat) : Int) < xr_fewest_43.toInt := my_nge c85 (nI_toInt (by omega)) rfl
                refine lv_aload_n hx hb dX2_tryBits_88 rfl (lv_at hl 4 rfl) ?_
                refine va_get (ci := 2) (v := .ref r3) (C := RX2) (T := TX2) (N := 9) hx hb hts hi2 hown hK hP 0 rfl rfl 2 (by decide) fl20 (fun _ h9 => h9) rfl dX2_tryBits_89 ?_
                refine lv_iload_n hx hb dX2_tryBits_92 rfl (lv_at hl 5 rfl) ?_
                refine lv_iload hx hb dX2_tryBits_93 (lv_at hl 1 rfl) ?_
                refine va_iast hx hb hK hP hD hS 3 0 rfl rfl (vp_in_nI (n := 2) (by omega) (by omega)) dX2_tryBits_95 (fun H locs hP hD hS => ?_)
                obtain ⟨g_6, eg_6⟩ : ∃ g : Nat → Int32, g = upd r3_43 2 (nI w_3) := ⟨_, rfl⟩
                have eU : upd r3_43 (2 : Int32).toNatClampNeg (nI w_3) = g_6 := by rw [eg_6, show (2 : Int32).toNatClampNeg = 2 from by decide +kernel]
                rw [eU] at hP hD
                have hP : va_P D vwCl (wl_kf_X2_tryBits_2 cI cJ cK xr r1 r2 r3 r4 r5 w0 w1 w2 w3 w4 w5 w6 w7 (nI rz) (nI rv) xr_fewest_43 xr_known_43 r2_43 g_6 r4_43 wf2 w3_43 w4_43 w5_43 w6_43 w7_43) H := hP
                have hD : va_D A (wl_kf_X2_tryBits_2 cI cJ cK xr r1 r2 r3 r4 r5 w0 w1 w2 w3 w4 w5 w6 w7 (nI rz) (nI rv) xr_fewest_43 xr_known_43 r2_43 g_6 r4_43 wf2 w3_43 w4_43 w5_43 w6_43 w7_43) := hD
                refine lv_aload_n hx hb dX2_tryBits_96 rfl (lv_at hl 4 rfl) ?_
                refine lv_iload_n hx hb dX2_tryBits_97 rfl (lv_at hl 5 rfl) ?_
                refine lv_iload_n hx hb dX2_tryBits_98 rfl (lv_at hl 6 rfl) ?_
                refine lv_iconst (v := 1) hx hb dX2_tryBits_99 (by decide +kernel) ?_
                refine lv_iload hx hb dX2_tryBits_100 (lv_at hl 1 rfl) ?_
                refine lv_ishl hx hb dX2_tryBits_102 ?_
                refine my_eqi (y := nI (2 ^ w_3)) (my_shl1 (by omega)) ?_
                refine lv_iconst (v := (-1)) hx hb dX2_tryBits_103 (by decide +kernel) ?_
                refine lv_ixor hx hb dX2_tryBits_104 ?_
                refine my_eqi (y := (nI (2 ^ w_3) ^^^ (-1))) (rfl) ?_
                refine lv_iand hx hb dX2_tryBits_105 ?_
                refine my_eqi (y := nI (O - 2 ^ w_3)) ((rm_b O hO _ (by omega) hbt).1) ?_
                refine lv_iload hx hb dX2_tryBits_106 (lv_at hl 0 rfl) ?_
                refine my_goVS (wc := (wl_kf_X2_takeBit_2 cI cJ cK xr r1 r2 r3 r4 r5 w0 w1 w2 w3 w4 w5 w6 w7 (nI rz) (nI rv) xr_fewest_43 xr_known_43 r2_43 g_6 r4_43 wf2 w3_43 w4_43 w5_43 w6_43 w7_43)) hP hD hS hA [0, 1, 2, 3, 4, 5, 6, 7, 8, 9, 10] rfl [some 0, some 1, some 2, some 3, some 4, some 5, some 6, some 7, some 8, some 9, some 10] (by decide +kernel) (my_cV (As := [.int 2, .int (nI (O - 2 ^ w_3)), .int (nI (ra + 1 + c_1 / 256 ^ w_3 % 256))]) (rest := []) (ci := 2) (wc := (wl_kf_X2_takeBit_2 cI cJ cK xr r1 r2 r3 r4 r5 w0 w1 w2 w3 w4 w5 w6 w7 (nI rz) (nI rv) xr_fewest_43 xr_known_43 r2_43 g_6 r4_43 wf2 w3_43 w4_43 w5_43 w6_43 w7_43)) ⟨hx, hb, hml, hown, hts⟩ (cwV 3 hts gX2_tryBits_X2_takeBit rfl rfl rfl (by decide +kernel) ⟨Nat.le_of_ble_eq_true rfl, Nat.le_of_ble_eq_true rfl⟩) hN hK hP hD [0, 1, 2, 3, 4, 5, 6, 7, 8, 9, 10] rfl (by decide) rfl 0 rfl rfl rfl rfl hl.1 rfl (Nat.le_of_ble_eq_true rfl) dX2_tryBits_108 ⟨Nat.le_of_ble_eq_true rfl, Nat.le_of_ble_eq_true rfl⟩  ((kf_X2_takeBit_2 l D cI cJ cK xr r1 r2 r3 r4 r5 w0 w1 w2 w3 w4 w5 w6 w7 rz rv xr_fewest_43 xr_known_43 r2_43 g_6 r4_43 wf2 w3_43 w4_43 w5_43 w6_43 w7_43 (O - 2 ^ w_3) (ra + 1 + c_1 / 256 ^ w_3 % 256) w_3 (min F (ra + tM (tF rz ((rv - 1) - 2) vg (oS O)) (oS O) (7 - (nI w_3).toInt).toNat)) vg (by first | assumption | omega | decide +kernel) (by first | assumption | omega | decide +kernel) (by first | assumption | omega | decide +kernel) (us_at (by assumption)) ((rm_b O hO _ (by omega) hbt).2.1) (by have h9 := rm_c hO (by omega) hbt; omega) (rm_v hO (by omega) hbt hvr) (hfw2) (by first | assumption | omega | decide +kernel) (by first | assumption | omega | decide +kernel) (by first | assumption | omega | decide +kernel) (by first | assumption | omega | decide +kernel) (by first | assumption | omega | decide +kernel)) _)) (fun u H locs hp hPD hS => ?_)
                obtain ⟨rw_7, rk_8, ro_9, rt_10, rb_11, wf3_12, wf4_13, wf5_14, wf6_15, wf7_16, rfl, ht_17, hfw1⟩ := hp
                obtain ⟨hP, hD⟩ := hPD rfl
                have hP : va_P D vwCl (wl_kf_X2_tryBits_2 cI cJ cK xr r1 r2 r3 r4 r5 w0 w1 w2 w3 w4 w5 w6 w7 (nI rz) (nI rv) rw_7 rk_8 ro_9 rt_10 rb_11 wf2 wf3_12 wf4_13 wf5_14 wf6_15 wf7_16) H := hP
                have hD : va_D A (wl_kf_X2_tryBits_2 cI cJ cK xr r1 r2 r3 r4 r5 w0 w1 w2 w3 w4 w5 w6 w7 (nI rz) (nI rv) rw_7 rk_8 ro_9 rt_10 rb_11 wf2 wf3_12 wf4_13 wf5_14 wf6_15 wf7_16) := hD
                obtain ⟨z_18, ez_18⟩ : ∃ y : Int32, y = nI w_3 + (-1) := ⟨_, rfl⟩
                try have tz_18 : z_18.toInt = ((w_3 : Nat) : Int) + (-1) := by rw [ez_18]; exact my_addI (nI_toInt (by omega)) (by decide +kernel) (by omega) (by omega)
                refine lv_iinc (v := z_18) (lv' := [(7, .int z_18), (8, .int (nI (ra + 1 + c_1 / 256 ^ w_3 % 256))), (6, .int (nI (2 * ((rv - 1) - 2)))), (4, .long (lN c_1)), (0, .ref xr), (1, .int 2), (2, .int (nI O)), (3, .int (nI ra))]) hx hb dX2_tryBits_111 hl (k := 1) rfl (by rw [ez_18]; rfl) (by decide) rfl (fun ls hl => ?_)
                refine lv_goto (tgt := 43) hx hb dX2_tryBits_114 (by decide) ?_
                exact ih43  z_18 rw_7 rk_8 ro_9 rt_10 rb_11 wf3_12 wf4_13 wf5_14 wf6_15 wf7_16 (by omega) (by first | assumption | omega | decide +kernel) (by first | assumption | omega | decide +kernel) (by first | exact tc_skip hfw2 (by omega) (by omega) (by omega) (os_f d73 (by omega)) | exact tc_bound hfw2 (by omega) (by omega) (by omega) (os_t d73 (by omega)) (by omega) | exact tc_done hfw1 (by omega) (by omega) (by omega) (os_t d73 (by omega)) (rm_G hO (by omega) hbt hru9 (by omega))) _ _ ls hP hD hS (lv_sub hl [0, 2, 3, 4, 5, 6, 7] rfl)
      have ec_19 : (7 : Int32).toInt = 7 := by decide +kernel
      exact loop43 ((((7 : Int32).toInt + 1).toNat) + 1) (7 : Int32) rw rk ro rt rb wf3 wf4 wf5 wf6 wf7 (Nat.lt_succ_self _) (by first | assumption | omega | decide +kernel) (by first | assumption | omega | decide +kernel) (tc_0 hfw hF) _ _ ls hP hD hS (lv_sub hl [0, 1, 2, 3, 4, 5, 6] rfl)
    ·
      exact absurd c11 (by decide +kernel)
abbrev wl_kf_X2_takeBit_1 (cI cJ cK : ClassId) (xr : Nat) (r1 : Nat) (r2 : Nat) (r3 : Nat) (r4 : Nat) (r5 : Nat) (w0 : Nat) (w1 : Nat) (w2 : Nat) (w3 : Nat) (w4 : Nat) (w5 : Nat) (w6 : Nat) (w7 : Nat) (v0_ : Int32) (v1_ : Int32) (v2_ : Int32) (v3_ : Int32) (v4_ : Nat → Int64) (v5_ : Nat → Int32) (v6_ : Nat → Int32) (v7_ : Nat → Int64) (v8_ : Nat → Int64) (v9_ : Nat → Int64) (v10_ : Nat → Int64) (v11_ : Nat → Int64) (v12_ : Nat → Int64) (v13_ : Nat → Int64) : va_W := [(xr, .inr (2, [.ref r1, .ref r2, .ref r3, .ref r4, .ref r5, .int v0_, .int v1_, .int v2_, .int v3_])), (r1, .inl (cK, 8, .inr (.inr (.inr (.inr (fun j => ([w0, w1, w2, w3, w4, w5, w6, w7] : List Nat)[j]?)))))), (r2, .inl (cJ, 64, .inr (.inl v4_))), (r3, .inl (cI, 8, .inl v5_)), (r4, .inl (cI, 8, .inl v6_)), (w1, .inl (cJ, 64, .inr (.inl v7_))), (w2, .inl (cJ, 64, .inr (.inl v8_))), (w3, .inl (cJ, 64, .inr (.inl v9_))), (w4, .inl (cJ, 64, .inr (.inl v10_))), (w5, .inl (cJ, 64, .inr (.inl v11_))), (w6, .inl (cJ, 64, .inr (.inl v12_))), (w7, .inl (cJ, 64, .inr (.inl v13_)))]
set_option maxHeartbeats 4000000 in
set_option maxRecDepth 100000 in
theorem kf_X2_takeBit_1 (l : Launch) (D : va_G) (cI cJ cK : ClassId) (xr : Nat) (r1 : Nat) (r2 : Nat) (r3 : Nat) (r4 : Nat) (r5 : Nat) (w0 : Nat) (w1 : Nat) (w2 : Nat) (w3 : Nat) (w4 : Nat) (w5 : Nat) (w6 : Nat) (w7 : Nat) (rz : Nat) (rv : Nat) (rw : Int32) (rk : Int32) (ro : Nat → Int64) (rt : Nat → Int32) (rb : Nat → Int32) (wf1 : Nat → Int64) (wf2 : Nat → Int64) (wf3 : Nat → Int64) (wf4 : Nat → Int64) (wf5 : Nat → Int64) (wf6 : Nat → Int64) (wf7 : Nat → Int64) (O : Nat) (ru : Nat) (b : Nat) (F : Nat) (vg : Nat → Nat) (hz_rz : rz ≤ 64) (hz_rv : rv ≤ 8) (hb8 : b < 8) (hrt : rt 1 = nI b) (hO : O < 256) (hcd : tC (oS O) + 2 = rv) (hvr : ∀ c, c < 8 → oS O c = true → tV vg rz c) (hfw : rw = nI F) (hF : F ≤ 513) (hru : ru < F) (hru6 : ru ≤ 128) (hln : ∀ i, i < rz → wf1 i = lN (laN (vg i))) (hv8 : ∀ i, i < rz → vg i < 256) : ctV l yX2_takeBit wsX2_takeBit ({ frames := 14, cells := 0, slots := 0, locals := 840 } : Room) D (tyIJ cI cJ cK) [.ref xr, .int 1, .int (nI O), .int (nI ru)] (wl_kf_X2_takeBit_1 cI cJ cK xr r1 r2 r3 r4 r5 w0 w1 w2 w3 w4 w5 w6 w7 (nI rz) (nI rv) rw rk ro rt rb wf1 wf2 wf3 wf4 wf5 wf6 wf7) (fun (u : va_W) => ∃ (rw' : Int32) (rk' : Int32) (ro' : Nat → Int64) (rt' : Nat → Int32) (rb' : Nat → Int32) (wf2' : Nat → Int64) (wf3' : Nat → Int64) (wf4' : Nat → Int64) (wf5' : Nat → Int64) (wf6' : Nat → Int64) (wf7' : Nat → Int64), u = (wl_kf_X2_takeBit_1 cI cJ cK xr r1 r2 r3 r4 r5 w0 w1 w2 w3 w4 w5 w6 w7 (nI rz) (nI rv) rw' rk' ro' rt' rb' wf1 wf2' wf3' wf4' wf5' wf6' wf7') ∧ True ∧ rw' = nI (min F (ru + tT rz ((rv - 1) - 1) (tP vg b rz) (oS O)))) := by
  refine ctV.of (cc := cX2_takeBit) (maxL := 4) (ret := none) (by decide) rfl (Nat.le_of_ble_eq_true rfl) ?_
  intro p e s m below meth c ls A hx hb hr hts hown hml hlocks hname hA hK hN hP hD hS hl
  have hl : lv_has ls 4 [(0, .ref xr), (1, .int 1), (2, .int (nI O)), (3, .int (nI ru))] := hl
  have hown : s.vm.findClass RX2 = some m.cls := hown
  have hi2 : ∀ w ∈ u_ws RX2 TX2 9, w ∈ wsX2_takeBit := by decide +kernel
  have fl11 := hts (.fieldLink RX2 11 "PlaneColumn$OrderSearch" "lines" "[[J") (by decide +kernel)
  have fl20 := hts (.fieldLink RX2 20 "PlaneColumn$OrderSearch" "tried" "[I") (by decide +kernel)
  have fl24 := hts (.fieldLink RX2 24 "PlaneColumn$OrderSearch" "best" "[I") (by decide +kernel)
  have fl34 := hts (.fieldLink RX2 34 "PlaneColumn$OrderSearch" "variedCount" "I") (by decide +kernel)
  have fl37 := hts (.fieldLink RX2 37 "PlaneColumn$OrderSearch" "fewest" "I") (by decide +kernel)
  refine lv_iload_n hx hb dX2_takeBit_0 rfl (lv_at hl 2 rfl) ?_
  refine lv_if_ne (tgt := 29) hx hb dX2_takeBit_1 (by decide) (fun c1 => ?_) (fun c1 => ?_)
  ·
    have d1 : ((O : Nat) : Int) ≠ (0 : Int) := my_ne c1 (nI_toInt (by omega)) (by decide +kernel)
    refine lv_iload_n hx hb dX2_takeBit_29 rfl (lv_at hl 1 rfl) ?_
    refine lv_iconst (v := 1) hx hb dX2_takeBit_30 (by decide +kernel) ?_
    refine lv_iadd hx hb dX2_takeBit_31 ?_
    refine my_eqi (y := 2) (by decide +kernel) ?_
    refine lv_bipush (v := 8) hx hb dX2_takeBit_32 (by decide +kernel) ?_
    refine lv_icmp_ge (tgt := 70) hx hb dX2_takeBit_34 (by decide) (fun c34 => ?_) (fun c34 => ?_)
    ·
      exact absurd c34 (by decide +kernel)
    ·
      refine lv_aload_n hx hb dX2_takeBit_37 rfl (lv_at hl 0 rfl) ?_
      refine lv_aload_n hx hb dX2_takeBit_38 rfl (lv_at hl 0 rfl) ?_
      refine va_get (ci := 2) (v := .ref r1) (C := RX2) (T := TX2) (N := 9) hx hb hts hi2 hown hK hP 0 rfl rfl 0 (by decide) fl11 (fun _ h9 => h9) rfl dX2_takeBit_39 ?_
      refine lv_iload_n hx hb dX2_takeBit_42 rfl (lv_at hl 1 rfl) ?_
      refine my_aald hx hb hK hP 1 rfl (vp_in_nI (n := 1) (by omega) (by omega)) dX2_takeBit_43 ?_
      refine my_eqa (y := .ref w1) (by rw [show (1 : Int32).toNatClampNeg = 1 by decide +kernel]; rfl) ?_
      refine lv_aload_n hx hb dX2_takeBit_44 rfl (lv_at hl 0 rfl) ?_
      refine va_get (ci := 2) (v := .ref r1) (C := RX2) (T := TX2) (N := 9) hx hb hts hi2 hown hK hP 0 rfl rfl 0 (by decide) fl11 (fun _ h9 => h9) rfl dX2_takeBit_45 ?_
      refine lv_iload_n hx hb dX2_takeBit_48 rfl (lv_at hl 1 rfl) ?_
      refine lv_iconst (v := 1) hx hb dX2_takeBit_49 (by decide +kernel) ?_
      refine lv_iadd hx hb dX2_takeBit_50 ?_
      refine my_eqi (y := 2) (by decide +kernel) ?_
      refine my_aald hx hb hK hP 1 rfl (vp_in_nI (n := 2) (by omega) (by omega)) dX2_takeBit_51 ?_
      refine my_eqa (y := .ref w2) (by rw [show (2 : Int32).toNatClampNeg = 2 by decide +kernel]; rfl) ?_
      refine lv_aload_n hx hb dX2_takeBit_52 rfl (lv_at hl 0 rfl) ?_
      refine va_get (ci := 2) (v := .ref r3) (C := RX2) (T := TX2) (N := 9) hx hb hts hi2 hown hK hP 0 rfl rfl 2 (by decide) fl20 (fun _ h9 => h9) rfl dX2_takeBit_53 ?_
      refine lv_iload_n hx hb dX2_takeBit_56 rfl (lv_at hl 1 rfl) ?_
      refine va_iald hx hb hK hP 3 0 rfl rfl (vp_in_nI (n := 1) (by omega) (by omega)) dX2_takeBit_57 ?_
      refine my_eqi (y := nI b) ((congrArg rt (show (1 : Int32).toNatClampNeg = 1 by decide +kernel)).trans hrt) ?_
      refine my_goVS (wc := (wl_kf_X2_part cI cJ cK xr r1 r2 r3 r4 r5 w1 w2 (nI rz) (nI rv) rw rk ro wf1 wf2)) hP hD hS hA [0, 2, 5, 6] rfl [some 0, none, some 1, none, none, some 2, some 3] (by decide +kernel) (my_cV (As := [.ref w1, .ref w2, .int (nI b)]) (rest := []) (ci := 2) (wc := (wl_kf_X2_part cI cJ cK xr r1 r2 r3 r4 r5 w1 w2 (nI rz) (nI rv) rw rk ro wf1 wf2)) ⟨hx, hb, hml, hown, hts⟩ (cwV 3 hts gX2_takeBit_X2_part rfl rfl rfl (by decide +kernel) ⟨Nat.le_of_ble_eq_true rfl, Nat.le_of_ble_eq_true rfl⟩) hN hK hP hD [0, 2, 5, 6] rfl (by decide) rfl 0 rfl rfl rfl rfl hl.1 rfl (Nat.le_of_ble_eq_true rfl) dX2_takeBit_58 ⟨Nat.le_of_ble_eq_true rfl, Nat.le_of_ble_eq_true rfl⟩  ((kf_X2_part l D cI cJ cK xr r1 r2 r3 r4 r5 w1 w2 rz rv rw rk ro wf1 wf2 b vg (by first | assumption | omega | decide +kernel) (by first | assumption | omega | decide +kernel) (by first | assumption | omega | decide +kernel) (by first | assumption | omega | decide +kernel)) _)) (fun u H locs hp hPD hS => ?_)
      obtain ⟨ro_1, wfb_2, rfl, hpl, ht_3⟩ := hp
      obtain ⟨hP, hD⟩ := hPD rfl
      have hP : va_P D vwCl (wl_kf_X2_takeBit_1 cI cJ cK xr r1 r2 r3 r4 r5 w0 w1 w2 w3 w4 w5 w6 w7 (nI rz) (nI rv) rw rk ro_1 rt rb wf1 wfb_2 wf3 wf4 wf5 wf6 wf7) H := hP
      have hD : va_D A (wl_kf_X2_takeBit_1 cI cJ cK xr r1 r2 r3 r4 r5 w0 w1 w2 w3 w4 w5 w6 w7 (nI rz) (nI rv) rw rk ro_1 rt rb wf1 wfb_2 wf3 wf4 wf5 wf6 wf7) := hD
      refine lv_aload_n hx hb dX2_takeBit_61 rfl (lv_at hl 0 rfl) ?_
      refine lv_iload_n hx hb dX2_takeBit_62 rfl (lv_at hl 1 rfl) ?_
      refine lv_iconst (v := 1) hx hb dX2_takeBit_63 (by decide +kernel) ?_
      refine lv_iadd hx hb dX2_takeBit_64 ?_
      refine my_eqi (y := 2) (by decide +kernel) ?_
      refine lv_iload_n hx hb dX2_takeBit_65 rfl (lv_at hl 2 rfl) ?_
      refine lv_iload_n hx hb dX2_takeBit_66 rfl (lv_at hl 3 rfl) ?_
      refine my_goVS (wc := (wl_kf_X2_tryBits_2 cI cJ cK xr r1 r2 r3 r4 r5 w0 w1 w2 w3 w4 w5 w6 w7 (nI rz) (nI rv) rw rk ro_1 rt rb wfb_2 wf3 wf4 wf5 wf6 wf7)) hP hD hS hA [0, 1, 2, 3, 4, 6, 7, 8, 9, 10, 11] rfl [some 0, some 1, some 2, some 3, some 4, none, some 5, some 6, some 7, some 8, some 9, some 10] (by decide +kernel) (my_cV (As := [.int 2, .int (nI O), .int (nI ru)]) (rest := []) (ci := 2) (wc := (wl_kf_X2_tryBits_2 cI cJ cK xr r1 r2 r3 r4 r5 w0 w1 w2 w3 w4 w5 w6 w7 (nI rz) (nI rv) rw rk ro_1 rt rb wfb_2 wf3 wf4 wf5 wf6 wf7)) ⟨hx, hb, hml, hown, hts⟩ (cwV 3 hts gX2_takeBit_X2_tryBits rfl rfl rfl (by decide +kernel) ⟨Nat.le_of_ble_eq_true rfl, Nat.le_of_ble_eq_true rfl⟩) hN hK hP hD [0, 1, 2, 3, 4, 6, 7, 8, 9, 10, 11] rfl (by decide) rfl 0 rfl rfl rfl rfl hl.1 rfl (Nat.le_of_ble_eq_true rfl) dX2_takeBit_67 ⟨Nat.le_of_ble_eq_true rfl, Nat.le_of_ble_eq_true rfl⟩  ((kf_X2_tryBits_2 l D cI cJ cK xr r1 r2 r3 r4 r5 w0 w1 w2 w3 w4 w5 w6 w7 rz rv rw rk ro_1 rt rb wfb_2 wf3 wf4 wf5 wf6 wf7 O ru F (tP vg b rz) (by first | assumption | omega | decide +kernel) (by first | assumption | omega | decide +kernel) (by first | assumption | omega | decide +kernel) (by first | assumption | omega | decide +kernel) (by first | assumption | omega | decide +kernel) (by first | assumption | omega | decide +kernel) (hpl) (tP_8 hv8) (fun c hc hs => tV_p.mpr (hvr c hc hs)) (by first | assumption | omega | decide +kernel) (Or.inl (by have h9 := oS_pos hO (by omega); omega))) _)) (fun u H locs hp hPD hS => ?_)
      obtain ⟨rw_4, rk_5, ro_6, rt_7, rb_8, wf3_9, wf4_10, wf5_11, wf6_12, wf7_13, rfl, ht_14, hfw1⟩ := hp
      obtain ⟨hP, hD⟩ := hPD rfl
      have hP : va_P D vwCl (wl_kf_X2_takeBit_1 cI cJ cK xr r1 r2 r3 r4 r5 w0 w1 w2 w3 w4 w5 w6 w7 (nI rz) (nI rv) rw_4 rk_5 ro_6 rt_7 rb_8 wf1 wfb_2 wf3_9 wf4_10 wf5_11 wf6_12 wf7_13) H := hP
      have hD : va_D A (wl_kf_X2_takeBit_1 cI cJ cK xr r1 r2 r3 r4 r5 w0 w1 w2 w3 w4 w5 w6 w7 (nI rz) (nI rv) rw_4 rk_5 ro_6 rt_7 rb_8 wf1 wfb_2 wf3_9 wf4_10 wf5_11 wf6_12 wf7_13) := hD
      exact my_retV hx hb hr hlocks hK hS (wl_kf_X2_takeBit_1 cI cJ cK xr r1 r2 r3 r4 r5 w0 w1 w2 w3 w4 w5 w6 w7 (nI rz) (nI rv) rw_4 rk_5 ro_6 rt_7 rb_8 wf1 wfb_2 wf3_9 wf4_10 wf5_11 wf6_12 wf7_13) hP hD (⟨rw_4, rk_5, ro_6, rt_7, rb_8, wfb_2, wf3_9, wf4_10, wf5_11, wf6_12, wf7_13, rfl, (by first | assumption | omega | trivial | decide +kernel), (by first | exact tk_0 (by omega) (by omega) hru | (rw [show ((rv - 1) - 1) = rv - 2 from (by omega)]; exact hfw1) | (exfalso; have h9 := oS_pos hO (by omega); omega))⟩) dX2_takeBit_70
  ·
    have d1 : ((O : Nat) : Int) = (0 : Int) := my_eq c1 (nI_toInt (by omega)) (by decide +kernel)
    refine lv_aload_n hx hb dX2_takeBit_4 rfl (lv_at hl 0 rfl) ?_
    refine lv_iload_n hx hb dX2_takeBit_5 rfl (lv_at hl 3 rfl) ?_
    refine va_put (ci := 2) (v := .int (nI ru)) (ty := (.int)) (C := RX2) (T := TX2) (N := 9) hx hb hts hi2 tyX2 tyX2_ok nmX2 hown hK hP hD hS 0 rfl rfl 7 (by decide) fl37 (fun _ h9 => h9) rfl (by decide +kernel) rfl rfl (Nat.le_of_ble_eq_true rfl) dX2_takeBit_6 (fun H locs hP hD hS => ?_)
    have hP : va_P D vwCl (wl_kf_X2_takeBit_1 cI cJ cK xr r1 r2 r3 r4 r5 w0 w1 w2 w3 w4 w5 w6 w7 (nI rz) (nI rv) (nI ru) rk ro rt rb wf1 wf2 wf3 wf4 wf5 wf6 wf7) H := hP
    have hD : va_D A (wl_kf_X2_takeBit_1 cI cJ cK xr r1 r2 r3 r4 r5 w0 w1 w2 w3 w4 w5 w6 w7 (nI rz) (nI rv) (nI ru) rk ro rt rb wf1 wf2 wf3 wf4 wf5 wf6 wf7) := hD
    refine lv_aload_n hx hb dX2_takeBit_9 rfl (lv_at hl 0 rfl) ?_
    refine va_get (ci := 2) (v := .ref r3) (C := RX2) (T := TX2) (N := 9) hx hb hts hi2 hown hK hP 0 rfl rfl 2 (by decide) fl20 (fun _ h9 => h9) rfl dX2_takeBit_10 ?_
    refine lv_iconst (v := 0) hx hb dX2_takeBit_13 (by decide +kernel) ?_
    refine lv_aload_n hx hb dX2_takeBit_14 rfl (lv_at hl 0 rfl) ?_
    refine va_get (ci := 2) (v := .ref r4) (C := RX2) (T := TX2) (N := 9) hx hb hts hi2 hown hK hP 0 rfl rfl 3 (by decide) fl24 (fun _ h9 => h9) rfl dX2_takeBit_15 ?_
    refine lv_iconst (v := 0) hx hb dX2_takeBit_18 (by decide +kernel) ?_
    refine lv_aload_n hx hb dX2_takeBit_19 rfl (lv_at hl 0 rfl) ?_
    refine va_get (ci := 2) (v := .int (nI rv)) (C := RX2) (T := TX2) (N := 9) hx hb hts hi2 hown hK hP 0 rfl rfl 6 (by decide) fl34 (fun _ h9 => h9) rfl dX2_takeBit_20 ?_
    refine va_copyi hx hb (hml.trans hl.1.symm) hown (hts (.methodLink RX2 75 arraycopyName) (by decide +kernel)) (hts (.native arraycopyName) (by decide +kernel)) (hts (.static arraycopyName) (by decide +kernel)) (hts (.initialized "java/lang/System") (by decide +kernel)) hK hP hD hS 3 4 0 0 rfl rfl rfl rfl rfl (by decide +kernel) (by decide +kernel) (nI_nneg (by omega)) (by rw [show (0 : Int32).toNatClampNeg = 0 from (by decide +kernel), show (nI rv : Int32).toNatClampNeg = rv from (nI_clamp (by omega))]; omega) (by rw [show (0 : Int32).toNatClampNeg = 0 from (by decide +kernel), show (nI rv : Int32).toNatClampNeg = rv from (nI_clamp (by omega))]; omega) (fun _ _ => rfl) (Nat.le_of_ble_eq_true rfl) (Nat.le_of_ble_eq_true rfl) dX2_takeBit_23 (fun H locs hP hD hS => ?_)
    obtain ⟨g_15, eg_15⟩ : ∃ g : Nat → Int32, g = va_cpy rt rb 0 0 rv := ⟨_, rfl⟩
    have eU : va_cpy rt rb (0 : Int32).toNatClampNeg (0 : Int32).toNatClampNeg (nI rv : Int32).toNatClampNeg = g_15 := by rw [eg_15, show (0 : Int32).toNatClampNeg = 0 from (by decide +kernel), show (nI rv : Int32).toNatClampNeg = rv from (nI_clamp (by omega))]
    rw [eU] at hP hD
    have hP : va_P D vwCl (wl_kf_X2_takeBit_1 cI cJ cK xr r1 r2 r3 r4 r5 w0 w1 w2 w3 w4 w5 w6 w7 (nI rz) (nI rv) (nI ru) rk ro rt g_15 wf1 wf2 wf3 wf4 wf5 wf6 wf7) H := hP
    have hD : va_D A (wl_kf_X2_takeBit_1 cI cJ cK xr r1 r2 r3 r4 r5 w0 w1 w2 w3 w4 w5 w6 w7 (nI rz) (nI rv) (nI ru) rk ro rt g_15 wf1 wf2 wf3 wf4 wf5 wf6 wf7) := hD
    refine lv_goto (tgt := 70) hx hb dX2_takeBit_26 (by decide) ?_
    exact my_retV hx hb hr hlocks hK hS (wl_kf_X2_takeBit_1 cI cJ cK xr r1 r2 r3 r4 r5 w0 w1 w2 w3 w4 w5 w6 w7 (nI rz) (nI rv) (nI ru) rk ro rt g_15 wf1 wf2 wf3 wf4 wf5 wf6 wf7) hP hD (⟨(nI ru), rk, ro, rt, g_15, wf2, wf3, wf4, wf5, wf6, wf7, rfl, (by first | assumption | omega | trivial | decide +kernel), (by first | exact tk_0 (by omega) (by omega) hru | (rw [show ((rv - 1) - 1) = rv - 2 from (by omega)]; exact hfw1) | (exfalso; have h9 := oS_pos hO (by omega); omega))⟩) dX2_takeBit_70
abbrev wl_kf_X2_tryBits_1 (cI cJ cK : ClassId) (xr : Nat) (r1 : Nat) (r2 : Nat) (r3 : Nat) (r4 : Nat) (r5 : Nat) (w0 : Nat) (w1 : Nat) (w2 : Nat) (w3 : Nat) (w4 : Nat) (w5 : Nat) (w6 : Nat) (w7 : Nat) (v0_ : Int32) (v1_ : Int32) (v2_ : Int32) (v3_ : Int32) (v4_ : Nat → Int64) (v5_ : Nat → Int32) (v6_ : Nat → Int32) (v7_ : Nat → Int64) (v8_ : Nat → Int64) (v9_ : Nat → Int64) (v10_ : Nat → Int64) (v11_ : Nat → Int64) (v12_ : Nat → Int64) (v13_ : Nat → Int64) : va_W := [(xr, .inr (2, [.ref r1, .ref r2, .ref r3, .ref r4, .ref r5, .int v0_, .int v1_, .int v2_, .int v3_])), (r1, .inl (cK, 8, .inr (.inr (.inr (.inr (fun j => ([w0, w1, w2, w3, w4, w5, w6, w7] : List Nat)[j]?)))))), (r2, .inl (cJ, 64, .inr (.inl v4_))), (r3, .inl (cI, 8, .inl v5_)), (r4, .inl (cI, 8, .inl v6_)), (w1, .inl (cJ, 64, .inr (.inl v7_))), (w2, .inl (cJ, 64, .inr (.inl v8_))), (w3, .inl (cJ, 64, .inr (.inl v9_))), (w4, .inl (cJ, 64, .inr (.inl v10_))), (w5, .inl (cJ, 64, .inr (.inl v11_))), (w6, .inl (cJ, 64, .inr (.inl v12_))), (w7, .inl (cJ, 64, .inr (.inl v13_)))]
set_option maxHeartbeats 4000000 in
set_option maxRecDepth 100000 in
theorem kf_X2_tryBits_1 (l : Launch) (D : va_G) (cI cJ cK : ClassId) (xr : Nat) (r1 : Nat) (r2 : Nat) (r3 : Nat) (r4 : Nat) (r5 : Nat) (w0 : Nat) (w1 : Nat) (w2 : Nat) (w3 : Nat) (w4 : Nat) (w5 : Nat) (w6 : Nat) (w7 : Nat) (rz : Nat) (rv : Nat) (rw : Int32) (rk : Int32) (ro : Nat → Int64) (rt : Nat → Int32) (rb : Nat → Int32) (wf1 : Nat → Int64) (wf2 : Nat → Int64) (wf3 : Nat → Int64) (wf4 : Nat → Int64) (wf5 : Nat → Int64) (wf6 : Nat → Int64) (wf7 : Nat → Int64) (O : Nat) (ra : Nat) (F : Nat) (vg : Nat → Nat) (hz_rz : rz ≤ 64) (hz_rv : rv ≤ 8) (hO : O < 256) (hra : ra ≤ 64) (hF : F ≤ 513) (hfw : rw = nI F) (hln : ∀ i, i < rz → wf1 i = lN (laN (vg i))) (hv8 : ∀ i, i < rz → vg i < 256) (hvr : ∀ c, c < 8 → oS O c = true → tV vg rz c) (hcd : tC (oS O) + 1 = rv) (hj0 : 1 < rv ∨ F = 0) : ctV l yX2_tryBits wsX2_tryBits ({ frames := 15, cells := 0, slots := 0, locals := 900 } : Room) D (tyIJ cI cJ cK) [.ref xr, .int 1, .int (nI O), .int (nI ra)] (wl_kf_X2_tryBits_1 cI cJ cK xr r1 r2 r3 r4 r5 w0 w1 w2 w3 w4 w5 w6 w7 (nI rz) (nI rv) rw rk ro rt rb wf1 wf2 wf3 wf4 wf5 wf6 wf7) (fun (u : va_W) => ∃ (rw' : Int32) (rk' : Int32) (ro' : Nat → Int64) (rt' : Nat → Int32) (rb' : Nat → Int32) (wf2' : Nat → Int64) (wf3' : Nat → Int64) (wf4' : Nat → Int64) (wf5' : Nat → Int64) (wf6' : Nat → Int64) (wf7' : Nat → Int64), u = (wl_kf_X2_tryBits_1 cI cJ cK xr r1 r2 r3 r4 r5 w0 w1 w2 w3 w4 w5 w6 w7 (nI rz) (nI rv) rw' rk' ro' rt' rb' wf1 wf2' wf3' wf4' wf5' wf6' wf7') ∧ True ∧ rw' = nI (min F (ra + tT rz (rv - 1) vg (oS O)))) := by
  refine ctV.of (cc := cX2_tryBits) (maxL := 9) (ret := none) (by decide) rfl (Nat.le_of_ble_eq_true rfl) ?_
  intro p e s m below meth c ls A hx hb hr hts hown hml hlocks hname hA hK hN hP hD hS hl
  have hl : lv_has ls 9 [(0, .ref xr), (1, .int 1), (2, .int (nI O)), (3, .int (nI ra))] := hl
  have hown : s.vm.findClass RX2 = some m.cls := hown
  have hi2 : ∀ w ∈ u_ws RX2 TX2 9, w ∈ wsX2_tryBits := by decide +kernel
  have fl11 := hts (.fieldLink RX2 11 "PlaneColumn$OrderSearch" "lines" "[[J") (by decide +kernel)
  have fl20 := hts (.fieldLink RX2 20 "PlaneColumn$OrderSearch" "tried" "[I") (by decide +kernel)
  have fl34 := hts (.fieldLink RX2 34 "PlaneColumn$OrderSearch" "variedCount" "I") (by decide +kernel)
  have fl37 := hts (.fieldLink RX2 37 "PlaneColumn$OrderSearch" "fewest" "I") (by decide +kernel)
  refine lv_iload_n hx hb dX2_tryBits_0 rfl (lv_at hl 1 rfl) ?_
  refine lv_aload_n hx hb dX2_tryBits_1 rfl (lv_at hl 0 rfl) ?_
  refine va_get (ci := 2) (v := .int (nI rv)) (C := RX2) (T := TX2) (N := 9) hx hb hts hi2 hown hK hP 0 rfl rfl 6 (by decide) fl34 (fun _ h9 => h9) rfl dX2_tryBits_2 ?_
  refine lv_icmp_ge (tgt := 14) hx hb dX2_tryBits_5 (by decide) (fun c5 => ?_) (fun c5 => ?_)
  ·
    have d5 : (1 : Int) ≥ ((rv : Nat) : Int) := my_ge c5 (by decide +kernel) (nI_toInt (by omega))
    exact my_retV hx hb hr hlocks hK hS (wl_kf_X2_tryBits_1 cI cJ cK xr r1 r2 r3 r4 r5 w0 w1 w2 w3 w4 w5 w6 w7 (nI rz) (nI rv) rw rk ro rt rb wf1 wf2 wf3 wf4 wf5 wf6 wf7) hP hD (⟨rw, rk, ro, rt, rb, wf2, wf3, wf4, wf5, wf6, wf7, rfl, (by first | assumption | omega | trivial | decide +kernel), (by first | exact tc_end hfw2 (by omega) (by omega) | exact tc_no hfw (by omega))⟩) dX2_tryBits_14
  ·
    have d5 : (1 : Int) < ((rv : Nat) : Int) := my_nge c5 (by decide +kernel) (nI_toInt (by omega))
    refine lv_iload_n hx hb dX2_tryBits_8 rfl (lv_at hl 1 rfl) ?_
    refine lv_bipush (v := 8) hx hb dX2_tryBits_9 (by decide +kernel) ?_
    refine lv_icmp_lt (tgt := 15) hx hb dX2_tryBits_11 (by decide) (fun c11 => ?_) (fun c11 => ?_)
    ·
      refine lv_aload_n hx hb dX2_tryBits_15 rfl (lv_at hl 0 rfl) ?_
      refine lv_aload_n hx hb dX2_tryBits_16 rfl (lv_at hl 0 rfl) ?_
      refine va_get (ci := 2) (v := .ref r1) (C := RX2) (T := TX2) (N := 9) hx hb hts hi2 hown hK hP 0 rfl rfl 0 (by decide) fl11 (fun _ h9 => h9) rfl dX2_tryBits_17 ?_
      refine lv_iload_n hx hb dX2_tryBits_20 rfl (lv_at hl 1 rfl) ?_
      refine my_aald hx hb hK hP 1 rfl (vp_in_nI (n := 1) (by omega) (by omega)) dX2_tryBits_21 ?_
      refine my_eqa (y := .ref w1) (by rw [show (1 : Int32).toNatClampNeg = 1 by decide +kernel]; rfl) ?_
      refine my_gpL (my_pV (As := [.ref w1]) (rest := []) (ci := 2) ⟨hx, hb, hml, hown, hts⟩ (cwV 1 hts gX2_tryBits_X2_changesOf rfl rfl rfl (by decide +kernel) ⟨Nat.le_of_ble_eq_true rfl, Nat.le_of_ble_eq_true rfl⟩) hN hK hP [0, 5] rfl 0 rfl rfl rfl rfl hl.1 rfl (Nat.le_of_ble_eq_true rfl) dX2_tryBits_22 ⟨Nat.le_of_ble_eq_true rfl, Nat.le_of_ble_eq_true rfl⟩  (kf_X2_changesOf l D cI cJ cK xr r1 r2 r3 r4 r5 w1 rz rv rw rk wf1 vg (by first | assumption | omega | decide +kernel) (by first | assumption | omega | decide +kernel) (by first | assumption | omega | decide +kernel) (by first | assumption | omega | decide +kernel))) (fun r hp => ?_)
      obtain ⟨c_1, rfl, hcc, ht_2⟩ := hp
      refine lv_lstore (lv' := [(4, .long (lN c_1)), (0, .ref xr), (1, .int 1), (2, .int (nI O)), (3, .int (nI ra))]) hx hb dX2_tryBits_25 hl (by decide) rfl (fun ls hl => ?_)
      refine lv_iconst (v := 2) hx hb dX2_tryBits_27 (by decide +kernel) ?_
      refine lv_aload_n hx hb dX2_tryBits_28 rfl (lv_at hl 1 rfl) ?_
      refine va_get (ci := 2) (v := .int (nI rv)) (C := RX2) (T := TX2) (N := 9) hx hb hts hi2 hown hK hP 0 rfl rfl 6 (by decide) fl34 (fun _ h9 => h9) rfl dX2_tryBits_29 ?_
      refine lv_iconst (v := 1) hx hb dX2_tryBits_32 (by decide +kernel) ?_
      refine lv_isub hx hb dX2_tryBits_33 ?_
      refine my_eqi (y := nI (rv - 1)) (my_subN (a := rv) (b := 1) (by omega)) ?_
      refine lv_iload_n hx hb dX2_tryBits_34 rfl (lv_at hl 2 rfl) ?_
      refine lv_isub hx hb dX2_tryBits_35 ?_
      refine my_eqi (y := nI ((rv - 1) - 1)) (my_subN (a := rv - 1) (b := 1) (by omega)) ?_
      refine lv_imul hx hb dX2_tryBits_36 ?_
      refine my_eqi (y := nI (2 * ((rv - 1) - 1))) (my_mulN _ _) ?_
      refine lv_istore (lv' := [(6, .int (nI (2 * ((rv - 1) - 1)))), (4, .long (lN c_1)), (0, .ref xr), (1, .int 1), (2, .int (nI O)), (3, .int (nI ra))]) hx hb dX2_tryBits_37 hl (by decide) rfl (fun ls hl => ?_)
      refine lv_bipush (v := 7) hx hb dX2_tryBits_39 (by decide +kernel) ?_
      refine lv_istore (lv' := [(7, .int 7), (6, .int (nI (2 * ((rv - 1) - 1)))), (4, .long (lN c_1)), (0, .ref xr), (1, .int 1), (2, .int (nI O)), (3, .int (nI ra))]) hx hb dX2_tryBits_41 hl (by decide) rfl (fun ls hl => ?_)
      have loop43 : ∀ (n9 : Nat) (x : Int32) (xr_fewest_43 : Int32) (xr_known_43 : Int32) (r2_43 : Nat → Int64) (r3_43 : Nat → Int32) (r4_43 : Nat → Int32) (w2_43 : Nat → Int64) (w3_43 : Nat → Int64) (w4_43 : Nat → Int64) (w5_43 : Nat → Int64) (w6_43 : Nat → Int64) (w7_43 : Nat → Int64), (x.toInt + 1).toNat < n9 → (-1 ≤ x.toInt) → (x.toInt ≤ 7) → (xr_fewest_43 = nI (min F (ra + tM (tF rz ((rv - 1) - 1) vg (oS O)) (oS O) (7 - x.toInt).toNat))) → ∀ (H : Heap) (locs : List Loc) (ls : Array Slot), va_P D vwCl (wl_kf_X2_tryBits_1 cI cJ cK xr r1 r2 r3 r4 r5 w0 w1 w2 w3 w4 w5 w6 w7 (nI rz) (nI rv) xr_fewest_43 xr_known_43 r2_43 r3_43 r4_43 wf1 w2_43 w3_43 w4_43 w5_43 w6_43 w7_43) H → va_D A (wl_kf_X2_tryBits_1 cI cJ cK xr r1 r2 r3 r4 r5 w0 w1 w2 w3 w4 w5 w6 w7 (nI rz) (nI rv) xr_fewest_43 xr_known_43 r2_43 r3_43 r4_43 wf1 w2_43 w3_43 w4_43 w5_43 w6_43 w7_43) → va_S A s.heap H locs → lv_has ls 9 [(7, .int x), (6, .int (nI (2 * ((rv - 1) - 1)))), (4, .long (lN c_1)), (0, .ref xr), (1, .int 1), (2, .int (nI O)), (3, .int (nI ra))] → W p l e ({ frames := 15, cells := 0, slots := 0, locals := 900 } : Room) s m [.ref xr, .int 1, .int (nI O), .int (nI ra)].toArray below meth c H locs 0 0 (MQ below (va_Qv (fun (u : va_W) => ∃ (rw' : Int32) (rk' : Int32) (ro' : Nat → Int64) (rt' : Nat → Int32) (rb' : Nat → Int32) (wf2' : Nat → Int64) (wf3' : Nat → Int64) (wf4' : Nat → Int64) (wf5' : Nat → Int64) (wf6' : Nat → Int64) (wf7' : Nat → Int64), u = (wl_kf_X2_tryBits_1 cI cJ cK xr r1 r2 r3 r4 r5 w0 w1 w2 w3 w4 w5 w6 w7 (nI rz) (nI rv) rw' rk' ro' rt' rb' wf1 wf2' wf3' wf4' wf5' wf6' wf7') ∧ True ∧ rw' = nI (min F (ra + tT rz (rv - 1) vg (oS O)))) (my_B D (tyIJ cI cJ cK) A) A) [.ref xr, .int 1, .int (nI O), .int (nI ra)].toArray s 0 0 A) (F0 m 43 ls []) := by
        intro n9
        induction n9 with
        | zero =>
          intro x xr_fewest_43 xr_known_43 r2_43 r3_43 r4_43 w2_43 w3_43 w4_43 w5_43 w6_43 w7_43 hn9
          exact absurd hn9 (Nat.not_lt_zero _)
        | succ n9 ih43 =>
          intro x xr_fewest_43 xr_known_43 r2_43 r3_43 r4_43 w2_43 w3_43 w4_43 w5_43 w6_43 w7_43 hn9 hx0 hx1 hfw2 H locs ls hP hD hS hl
          have hfi : xr_fewest_43.toInt = (((min F (ra + tM (tF rz ((rv - 1) - 1) vg (oS O)) (oS O) (7 - x.toInt).toNat)) : Nat) : Int) := by rw [hfw2]; exact nI_toInt (by omega)
          refine lv_iload hx hb dX2_tryBits_43 (lv_at hl 0 rfl) ?_
          refine lv_if_lt (tgt := 117) hx hb dX2_tryBits_45 (by decide) (fun c45 => ?_) (fun c45 => ?_)
          ·
            have d45 : x.toInt < (0 : Int) := my_lt c45 rfl (by decide +kernel)
            exact my_retV hx hb hr hlocks hK hS (wl_kf_X2_tryBits_1 cI cJ cK xr r1 r2 r3 r4 r5 w0 w1 w2 w3 w4 w5 w6 w7 (nI rz) (nI rv) xr_fewest_43 xr_known_43 r2_43 r3_43 r4_43 wf1 w2_43 w3_43 w4_43 w5_43 w6_43 w7_43) hP hD (⟨xr_fewest_43, xr_known_43, r2_43, r3_43, r4_43, w2_43, w3_43, w4_43, w5_43, w6_43, w7_43, rfl, (by first | assumption | omega | trivial | decide +kernel), (by first | exact tc_end hfw2 (by omega) (by omega) | exact tc_no hfw (by omega))⟩) dX2_tryBits_117
          ·
            have d45 : x.toInt ≥ (0 : Int) := my_nlt c45 rfl (by decide +kernel)
            obtain ⟨w_3, rfl, hw_3⟩ := my_natP (x := x) (by omega)
            refine lv_iload_n hx hb dX2_tryBits_48 rfl (lv_at hl 6 rfl) ?_
            refine lv_iconst (v := 1) hx hb dX2_tryBits_49 (by decide +kernel) ?_
            refine lv_iadd hx hb dX2_tryBits_50 ?_
            refine my_eqi (y := nI (ra + 1)) (my_addN ra 1) ?_
            refine lv_lload hx hb dX2_tryBits_51 (lv_at hl 2 rfl) ?_
            refine lv_bipush (v := 8) hx hb dX2_tryBits_53 (by decide +kernel) ?_
            refine lv_iload hx hb dX2_tryBits_55 (lv_at hl 0 rfl) ?_
            refine lv_imul hx hb dX2_tryBits_57 ?_
            refine my_eqi (y := nI (8 * w_3)) (my_mulN _ _) ?_
            have hclt : c_1 < 18446744073709551616 := by rw [hcc]; exact chS_lt vg hz_rz
            refine lv_lushr (v := lN (c_1 / 256 ^ w_3)) hx hb dX2_tryBits_58 (ush_8 hclt (by omega)) ?_
            refine lv_ldc2 (v := 255) hx hb hown (hts (.constantLong RX2 70 (255)) (by decide +kernel)) dX2_tryBits_59 ?_
            refine lv_land hx hb dX2_tryBits_62 ?_
            refine my_eql (y := lN (c_1 / 256 ^ w_3 % 256)) (and_255 (Nat.lt_of_le_of_lt (Nat.div_le_self _ _) hclt)) ?_
            refine lv_l2i (v := nI (c_1 / 256 ^ w_3 % 256)) hx hb dX2_tryBits_63 (l2i_N (by omega)) ?_
            refine lv_iadd hx hb dX2_tryBits_64 ?_
            refine my_eqi (y := nI (ra + 1 + c_1 / 256 ^ w_3 % 256)) (nI_add _ _) ?_
            refine lv_istore (lv' := [(8, .int (nI (ra + 1 + c_1 / 256 ^ w_3 % 256))), (7, .int (nI w_3)), (6, .int (nI (2 * ((rv - 1) - 1)))), (4, .long (lN c_1)), (0, .ref xr), (1, .int 1), (2, .int (nI O)), (3, .int (nI ra))]) hx hb dX2_tryBits_65 hl (by decide) rfl (fun ls hl => ?_)
            refine lv_iload_n hx hb dX2_tryBits_67 rfl (lv_at hl 6 rfl) ?_
            refine lv_iload hx hb dX2_tryBits_68 (lv_at hl 1 rfl) ?_
            refine lv_ishr hx hb dX2_tryBits_70 ?_
            refine my_eqi (y := nI (O / 2 ^ w_3)) (my_shrG (by omega) (by omega)) ?_
            refine lv_iconst (v := 1) hx hb dX2_tryBits_71 (by decide +kernel) ?_
            refine lv_iand hx hb dX2_tryBits_72 ?_
            refine my_eqi (y := nI ((O / 2 ^ w_3) % 2)) (my_maskN _ 1) ?_
            refine lv_if_eq (tgt := 111) hx hb dX2_tryBits_73 (by decide) (fun c73 => ?_) (fun c73 => ?_)
            ·
              have d73 : (((O / 2 ^ w_3) % 2 : Nat) : Int) = (0 : Int) := my_eq c73 (nI_toInt (by omega)) (by decide +kernel)
              obtain ⟨z_4, ez_4⟩ : ∃ y : Int32, y = nI w_3 + (-1) := ⟨_, rfl⟩
              try have tz_4 : z_4.toInt = ((w_3 : Nat) : Int) + (-1) := by rw [ez_4]; exact my_addI (nI_toInt (by omega)) (by decide +kernel) (by omega) (by omega)
              refine lv_iinc (v := z_4) (lv' := [(7, .int z_4), (8, .int (nI (ra + 1 + c_1 / 256 ^ w_3 % 256))), (6, .int (nI (2 * ((rv - 1) - 1)))), (4, .long (lN c_1)), (0, .ref xr), (1, .int 1), (2, .int (nI O)), (3, .int (nI ra))]) hx hb dX2_tryBits_111 hl (k := 1) rfl (by rw [ez_4]; rfl) (by decide) rfl (fun ls hl => ?_)
              refine lv_goto (tgt := 43) hx hb dX2_tryBits_114 (by decide) ?_
              exact ih43  z_4 xr_fewest_43 xr_known_43 r2_43 r3_43 r4_43 w2_43 w3_43 w4_43 w5_43 w6_43 w7_43 (by omega) (by first | assumption | omega | decide +kernel) (by first | assumption | omega | decide +kernel) (by first | exact tc_skip hfw2 (by omega) (by omega) (by omega) (os_f d73 (by omega)) | exact tc_bound hfw2 (by omega) (by omega) (by omega) (os_t d73 (by omega)) (by omega) | exact tc_done hfw1 (by omega) (by omega) (by omega) (os_t d73 (by omega)) (rm_G hO (by omega) hbt hru9 (by omega))) _ _ ls hP hD hS (lv_sub hl [0, 2, 3, 4, 5, 6, 7] rfl)
            ·
              have d73 : (((O / 2 ^ w_3) % 2 : Nat) : Int) ≠ (0 : Int) := my_ne c73 (nI_toInt (by omega)) (by decide +kernel)
              have hbt : Nat.testBit O w_3 = true := bN_t (by rw [← bn_tb]; omega)
              have hrz : 0 < rz := by obtain ⟨i9, hi9, -⟩ := hvr w_3 (by omega) hbt; omega
              have hru9 : ra + 1 + c_1 / 256 ^ w_3 % 256 = ra + rnF (tB vg w_3) rz := by rw [hcc, chS_at (by omega) hz_rz, tG_rn hrz]; omega
              have hrl := rnF_le (tB vg w_3) rz
              have hlb : rnF (tB vg w_3) rz + 2 * ((rv - 1) - 1) ≤ (tF rz ((rv - 1) - 1) vg (oS O)) (nI w_3).toInt.toNat := by rw [show (nI w_3).toInt.toNat = w_3 from (by omega)]; exact th_lb (by omega) hvr
              refine lv_iload hx hb dX2_tryBits_76 (lv_at hl 0 rfl) ?_
              refine lv_iload hx hb dX2_tryBits_78 (lv_at hl 2 rfl) ?_
              refine lv_iadd hx hb dX2_tryBits_80 ?_
              refine my_eqi (y := nI (ra + 1 + c_1 / 256 ^ w_3 % 256 + (2 * ((rv - 1) - 1)))) (nI_add _ _) ?_
              refine lv_aload_n hx hb dX2_tryBits_81 rfl (lv_at hl 4 rfl) ?_
              refine va_get (ci := 2) (v := .int xr_fewest_43) (C := RX2) (T := TX2) (N := 9) hx hb hts hi2 hown hK hP 0 rfl rfl 7 (by decide) fl37 (fun _ h9 => h9) rfl dX2_tryBits_82 ?_
              refine lv_icmp_ge (tgt := 111) hx hb dX2_tryBits_85 (by decide) (fun c85 => ?_) (fun c85 => ?_)
              ·
                have d85 : ((ra + 1 + c_1 / 256 ^ w_3 % 256 + (2 * ((rv - 1) - 1)) : Nat) : Int) ≥ xr_fewest_43.toInt := my_ge c85 (nI_toInt (by omega)) rfl
                obtain ⟨z_5, ez_5⟩ : ∃ y : Int32, y = nI w_3 + (-1) := ⟨_, rfl⟩
                try have tz_5 : z_5.toInt = ((w_3 : Nat) : Int) + (-1) := by rw [ez_5]; exact my_addI (nI_toInt (by omega)) (by decide +kernel) (by omega) (by omega)
                refine lv_iinc (v := z_5) (lv' := [(7, .int z_5), (8, .int (nI (ra + 1 + c_1 / 256 ^ w_3 % 256))), (6, .int (nI (2 * ((rv - 1) - 1)))), (4, .long (lN c_1)), (0, .ref xr), (1, .int 1), (2, .int (nI O)), (3, .int (nI ra))]) hx hb dX2_tryBits_111 hl (k := 1) rfl (by rw [ez_5]; rfl) (by decide) rfl (fun ls hl => ?_)
                refine lv_goto (tgt := 43) hx hb dX2_tryBits_114 (by decide) ?_
                exact ih43  z_5 xr_fewest_43 xr_known_43 r2_43 r3_43 r4_43 w2_43 w3_43 w4_43 w5_43 w6_43 w7_43 (by omega) (by first | assumption | omega | decide +kernel) (by first | assumption | omega | decide +kernel) (by first | exact tc_skip hfw2 (by omega) (by omega) (by omega) (os_f d73 (by omega)) | exact tc_bound hfw2 (by omega) (by omega) (by omega) (os_t d73 (by omega)) (by omega) | exact tc_done hfw1 (by omega) (by omega) (by omega) (os_t d73 (by omega)) (rm_G hO (by omega) hbt hru9 (by omega))) _ _ ls hP hD hS (lv_sub hl [0, 2, 3, 4, 5, 6, 7] rfl)
              ·
                have d85 : ((ra + 1 + c_1 / 256 ^ w_3 % 256 + (2 * ((rv - 1) - 1)) : Nat) : Int) < xr_fewest_43.toInt := my_nge c85 (nI_toInt (by omega)) rfl
                refine lv_aload_n hx hb dX2_tryBits_88 rfl (lv_at hl 4 rfl) ?_
                refine va_get (ci := 2) (v := .ref r3) (C := RX2) (T := TX2) (N := 9) hx hb hts hi2 hown hK hP 0 rfl rfl 2 (by decide) fl20 (fun _ h9 => h9) rfl dX2_tryBits_89 ?_
                refine lv_iload_n hx hb dX2_tryBits_92 rfl (lv_at hl 5 rfl) ?_
                refine lv_iload hx hb dX2_tryBits_93 (lv_at hl 1 rfl) ?_
                refine va_iast hx hb hK hP hD hS 3 0 rfl rfl (vp_in_nI (n := 1) (by omega) (by omega)) dX2_tryBits_95 (fun H locs hP hD hS => ?_)
                obtain ⟨g_6, eg_6⟩ : ∃ g : Nat → Int32, g = upd r3_43 1 (nI w_3) := ⟨_, rfl⟩
                have eU : upd r3_43 (1 : Int32).toNatClampNeg (nI w_3) = g_6 := by rw [eg_6, show (1 : Int32).toNatClampNeg = 1 from by decide +kernel]
                rw [eU] at hP hD
                have hP : va_P D vwCl (wl_kf_X2_tryBits_1 cI cJ cK xr r1 r2 r3 r4 r5 w0 w1 w2 w3 w4 w5 w6 w7 (nI rz) (nI rv) xr_fewest_43 xr_known_43 r2_43 g_6 r4_43 wf1 w2_43 w3_43 w4_43 w5_43 w6_43 w7_43) H := hP
                have hD : va_D A (wl_kf_X2_tryBits_1 cI cJ cK xr r1 r2 r3 r4 r5 w0 w1 w2 w3 w4 w5 w6 w7 (nI rz) (nI rv) xr_fewest_43 xr_known_43 r2_43 g_6 r4_43 wf1 w2_43 w3_43 w4_43 w5_43 w6_43 w7_43) := hD
                refine lv_aload_n hx hb dX2_tryBits_96 rfl (lv_at hl 4 rfl) ?_
                refine lv_iload_n hx hb dX2_tryBits_97 rfl (lv_at hl 5 rfl) ?_
                refine lv_iload_n hx hb dX2_tryBits_98 rfl (lv_at hl 6 rfl) ?_
                refine lv_iconst (v := 1) hx hb dX2_tryBits_99 (by decide +kernel) ?_
                refine lv_iload hx hb dX2_tryBits_100 (lv_at hl 1 rfl) ?_
                refine lv_ishl hx hb dX2_tryBits_102 ?_
                refine my_eqi (y := nI (2 ^ w_3)) (my_shl1 (by omega)) ?_
                refine lv_iconst (v := (-1)) hx hb dX2_tryBits_103 (by decide +kernel) ?_
                refine lv_ixor hx hb dX2_tryBits_104 ?_
                refine my_eqi (y := (nI (2 ^ w_3) ^^^ (-1))) (rfl) ?_
                refine lv_iand hx hb dX2_tryBits_105 ?_
                refine my_eqi (y := nI (O - 2 ^ w_3)) ((rm_b O hO _ (by omega) hbt).1) ?_
                refine lv_iload hx hb dX2_tryBits_106 (lv_at hl 0 rfl) ?_
                refine my_goVS (wc := (wl_kf_X2_takeBit_1 cI cJ cK xr r1 r2 r3 r4 r5 w0 w1 w2 w3 w4 w5 w6 w7 (nI rz) (nI rv) xr_fewest_43 xr_known_43 r2_43 g_6 r4_43 wf1 w2_43 w3_43 w4_43 w5_43 w6_43 w7_43)) hP hD hS hA [0, 1, 2, 3, 4, 5, 6, 7, 8, 9, 10, 11] rfl [some 0, some 1, some 2, some 3, some 4, some 5, some 6, some 7, some 8, some 9, some 10, some 11] (by decide +kernel) (my_cV (As := [.int 1, .int (nI (O - 2 ^ w_3)), .int (nI (ra + 1 + c_1 / 256 ^ w_3 % 256))]) (rest := []) (ci := 2) (wc := (wl_kf_X2_takeBit_1 cI cJ cK xr r1 r2 r3 r4 r5 w0 w1 w2 w3 w4 w5 w6 w7 (nI rz) (nI rv) xr_fewest_43 xr_known_43 r2_43 g_6 r4_43 wf1 w2_43 w3_43 w4_43 w5_43 w6_43 w7_43)) ⟨hx, hb, hml, hown, hts⟩ (cwV 3 hts gX2_tryBits_X2_takeBit rfl rfl rfl (by decide +kernel) ⟨Nat.le_of_ble_eq_true rfl, Nat.le_of_ble_eq_true rfl⟩) hN hK hP hD [0, 1, 2, 3, 4, 5, 6, 7, 8, 9, 10, 11] rfl (by decide) rfl 0 rfl rfl rfl rfl hl.1 rfl (Nat.le_of_ble_eq_true rfl) dX2_tryBits_108 ⟨Nat.le_of_ble_eq_true rfl, Nat.le_of_ble_eq_true rfl⟩  ((kf_X2_takeBit_1 l D cI cJ cK xr r1 r2 r3 r4 r5 w0 w1 w2 w3 w4 w5 w6 w7 rz rv xr_fewest_43 xr_known_43 r2_43 g_6 r4_43 wf1 w2_43 w3_43 w4_43 w5_43 w6_43 w7_43 (O - 2 ^ w_3) (ra + 1 + c_1 / 256 ^ w_3 % 256) w_3 (min F (ra + tM (tF rz ((rv - 1) - 1) vg (oS O)) (oS O) (7 - (nI w_3).toInt).toNat)) vg (by first | assumption | omega | decide +kernel) (by first | assumption | omega | decide +kernel) (by first | assumption | omega | decide +kernel) (us_at (by assumption)) ((rm_b O hO _ (by omega) hbt).2.1) (by have h9 := rm_c hO (by omega) hbt; omega) (rm_v hO (by omega) hbt hvr) (hfw2) (by first | assumption | omega | decide +kernel) (by first | assumption | omega | decide +kernel) (by first | assumption | omega | decide +kernel) (by first | assumption | omega | decide +kernel) (by first | assumption | omega | decide +kernel)) _)) (fun u H locs hp hPD hS => ?_)
                obtain ⟨rw_7, rk_8, ro_9, rt_10, rb_11, wf2_12, wf3_13, wf4_14, wf5_15, wf6_16, wf7_17, rfl, ht_18, hfw1⟩ := hp
                obtain ⟨hP, hD⟩ := hPD rfl
                have hP : va_P D vwCl (wl_kf_X2_tryBits_1 cI cJ cK xr r1 r2 r3 r4 r5 w0 w1 w2 w3 w4 w5 w6 w7 (nI rz) (nI rv) rw_7 rk_8 ro_9 rt_10 rb_11 wf1 wf2_12 wf3_13 wf4_14 wf5_15 wf6_16 wf7_17) H := hP
                have hD : va_D A (wl_kf_X2_tryBits_1 cI cJ cK xr r1 r2 r3 r4 r5 w0 w1 w2 w3 w4 w5 w6 w7 (nI rz) (nI rv) rw_7 rk_8 ro_9 rt_10 rb_11 wf1 wf2_12 wf3_13 wf4_14 wf5_15 wf6_16 wf7_17) := hD
                obtain ⟨z_19, ez_19⟩ : ∃ y : Int32, y = nI w_3 + (-1) := ⟨_, rfl⟩
                try have tz_19 : z_19.toInt = ((w_3 : Nat) : Int) + (-1) := by rw [ez_19]; exact my_addI (nI_toInt (by omega)) (by decide +kernel) (by omega) (by omega)
                refine lv_iinc (v := z_19) (lv' := [(7, .int z_19), (8, .int (nI (ra + 1 + c_1 / 256 ^ w_3 % 256))), (6, .int (nI (2 * ((rv - 1) - 1)))), (4, .long (lN c_1)), (0, .ref xr), (1, .int 1), (2, .int (nI O)), (3, .int (nI ra))]) hx hb dX2_tryBits_111 hl (k := 1) rfl (by rw [ez_19]; rfl) (by decide) rfl (fun ls hl => ?_)
                refine lv_goto (tgt := 43) hx hb dX2_tryBits_114 (by decide) ?_
                exact ih43  z_19 rw_7 rk_8 ro_9 rt_10 rb_11 wf2_12 wf3_13 wf4_14 wf5_15 wf6_16 wf7_17 (by omega) (by first | assumption | omega | decide +kernel) (by first | assumption | omega | decide +kernel) (by first | exact tc_skip hfw2 (by omega) (by omega) (by omega) (os_f d73 (by omega)) | exact tc_bound hfw2 (by omega) (by omega) (by omega) (os_t d73 (by omega)) (by omega) | exact tc_done hfw1 (by omega) (by omega) (by omega) (os_t d73 (by omega)) (rm_G hO (by omega) hbt hru9 (by omega))) _ _ ls hP hD hS (lv_sub hl [0, 2, 3, 4, 5, 6, 7] rfl)
      have ec_20 : (7 : Int32).toInt = 7 := by decide +kernel
      exact loop43 ((((7 : Int32).toInt + 1).toNat) + 1) (7 : Int32) rw rk ro rt rb wf2 wf3 wf4 wf5 wf6 wf7 (Nat.lt_succ_self _) (by first | assumption | omega | decide +kernel) (by first | assumption | omega | decide +kernel) (tc_0 hfw hF) _ _ ls hP hD hS (lv_sub hl [0, 1, 2, 3, 4, 5, 6] rfl)
    ·
      exact absurd c11 (by decide +kernel)
abbrev wl_kf_X2_takeBit_0 (cI cJ cK : ClassId) (xr : Nat) (r1 : Nat) (r2 : Nat) (r3 : Nat) (r4 : Nat) (r5 : Nat) (w0 : Nat) (w1 : Nat) (w2 : Nat) (w3 : Nat) (w4 : Nat) (w5 : Nat) (w6 : Nat) (w7 : Nat) (v0_ : Int32) (v1_ : Int32) (v2_ : Int32) (v3_ : Int32) (v4_ : Nat → Int64) (v5_ : Nat → Int32) (v6_ : Nat → Int32) (v7_ : Nat → Int64) (v8_ : Nat → Int64) (v9_ : Nat → Int64) (v10_ : Nat → Int64) (v11_ : Nat → Int64) (v12_ : Nat → Int64) (v13_ : Nat → Int64) (v14_ : Nat → Int64) : va_W := [(xr, .inr (2, [.ref r1, .ref r2, .ref r3, .ref r4, .ref r5, .int v0_, .int v1_, .int v2_, .int v3_])), (r1, .inl (cK, 8, .inr (.inr (.inr (.inr (fun j => ([w0, w1, w2, w3, w4, w5, w6, w7] : List Nat)[j]?)))))), (r2, .inl (cJ, 64, .inr (.inl v4_))), (r3, .inl (cI, 8, .inl v5_)), (r4, .inl (cI, 8, .inl v6_)), (w0, .inl (cJ, 64, .inr (.inl v7_))), (w1, .inl (cJ, 64, .inr (.inl v8_))), (w2, .inl (cJ, 64, .inr (.inl v9_))), (w3, .inl (cJ, 64, .inr (.inl v10_))), (w4, .inl (cJ, 64, .inr (.inl v11_))), (w5, .inl (cJ, 64, .inr (.inl v12_))), (w6, .inl (cJ, 64, .inr (.inl v13_))), (w7, .inl (cJ, 64, .inr (.inl v14_)))]
set_option maxHeartbeats 4000000 in
set_option maxRecDepth 100000 in
theorem kf_X2_takeBit_0 (l : Launch) (D : va_G) (cI cJ cK : ClassId) (xr : Nat) (r1 : Nat) (r2 : Nat) (r3 : Nat) (r4 : Nat) (r5 : Nat) (w0 : Nat) (w1 : Nat) (w2 : Nat) (w3 : Nat) (w4 : Nat) (w5 : Nat) (w6 : Nat) (w7 : Nat) (rz : Nat) (rv : Nat) (rw : Int32) (rk : Int32) (ro : Nat → Int64) (rt : Nat → Int32) (rb : Nat → Int32) (wf0 : Nat → Int64) (wf1 : Nat → Int64) (wf2 : Nat → Int64) (wf3 : Nat → Int64) (wf4 : Nat → Int64) (wf5 : Nat → Int64) (wf6 : Nat → Int64) (wf7 : Nat → Int64) (O : Nat) (ru : Nat) (b : Nat) (F : Nat) (vg : Nat → Nat) (hz_rz : rz ≤ 64) (hz_rv : rv ≤ 8) (hb8 : b < 8) (hrt : rt 0 = nI b) (hO : O < 256) (hcd : tC (oS O) + 1 = rv) (hvr : ∀ c, c < 8 → oS O c = true → tV vg rz c) (hfw : rw = nI F) (hF : F ≤ 513) (hru : ru < F) (hru6 : ru ≤ 64) (hln : ∀ i, i < rz → wf0 i = lN (laN (vg i))) (hv8 : ∀ i, i < rz → vg i < 256) : ctV l yX2_takeBit wsX2_takeBit ({ frames := 16, cells := 0, slots := 0, locals := 960 } : Room) D (tyIJ cI cJ cK) [.ref xr, .int 0, .int (nI O), .int (nI ru)] (wl_kf_X2_takeBit_0 cI cJ cK xr r1 r2 r3 r4 r5 w0 w1 w2 w3 w4 w5 w6 w7 (nI rz) (nI rv) rw rk ro rt rb wf0 wf1 wf2 wf3 wf4 wf5 wf6 wf7) (fun (u : va_W) => ∃ (rw' : Int32) (rk' : Int32) (ro' : Nat → Int64) (rt' : Nat → Int32) (rb' : Nat → Int32) (wf1' : Nat → Int64) (wf2' : Nat → Int64) (wf3' : Nat → Int64) (wf4' : Nat → Int64) (wf5' : Nat → Int64) (wf6' : Nat → Int64) (wf7' : Nat → Int64), u = (wl_kf_X2_takeBit_0 cI cJ cK xr r1 r2 r3 r4 r5 w0 w1 w2 w3 w4 w5 w6 w7 (nI rz) (nI rv) rw' rk' ro' rt' rb' wf0 wf1' wf2' wf3' wf4' wf5' wf6' wf7') ∧ True ∧ rw' = nI (min F (ru + tT rz ((rv - 1) - 0) (tP vg b rz) (oS O)))) := by
  refine ctV.of (cc := cX2_takeBit) (maxL := 4) (ret := none) (by decide) rfl (Nat.le_of_ble_eq_true rfl) ?_
  intro p e s m below meth c ls A hx hb hr hts hown hml hlocks hname hA hK hN hP hD hS hl
  have hl : lv_has ls 4 [(0, .ref xr), (1, .int 0), (2, .int (nI O)), (3, .int (nI ru))] := hl
  have hown : s.vm.findClass RX2 = some m.cls := hown
  have hi2 : ∀ w ∈ u_ws RX2 TX2 9, w ∈ wsX2_takeBit := by decide +kernel
  have fl11 := hts (.fieldLink RX2 11 "PlaneColumn$OrderSearch" "lines" "[[J") (by decide +kernel)
  have fl20 := hts (.fieldLink RX2 20 "PlaneColumn$OrderSearch" "tried" "[I") (by decide +kernel)
  have fl24 := hts (.fieldLink RX2 24 "PlaneColumn$OrderSearch" "best" "[I") (by decide +kernel)
  have fl34 := hts (.fieldLink RX2 34 "PlaneColumn$OrderSearch" "variedCount" "I") (by decide +kernel)
  have fl37 := hts (.fieldLink RX2 37 "PlaneColumn$OrderSearch" "fewest" "I") (by decide +kernel)
  refine lv_iload_n hx hb dX2_takeBit_0 rfl (lv_at hl 2 rfl) ?_
  refine lv_if_ne (tgt := 29) hx hb dX2_takeBit_1 (by decide) (fun c1 => ?_) (fun c1 => ?_)
  ·
    have d1 : ((O : Nat) : Int) ≠ (0 : Int) := my_ne c1 (nI_toInt (by omega)) (by decide +kernel)
    refine lv_iload_n hx hb dX2_takeBit_29 rfl (lv_at hl 1 rfl) ?_
    refine lv_iconst (v := 1) hx hb dX2_takeBit_30 (by decide +kernel) ?_
    refine lv_iadd hx hb dX2_takeBit_31 ?_
    refine my_eqi (y := 1) (by decide +kernel) ?_
    refine lv_bipush (v := 8) hx hb dX2_takeBit_32 (by decide +kernel) ?_
    refine lv_icmp_ge (tgt := 70) hx hb dX2_takeBit_34 (by decide) (fun c34 => ?_) (fun c34 => ?_)
    ·
      exact absurd c34 (by decide +kernel)
    ·
      refine lv_aload_n hx hb dX2_takeBit_37 rfl (lv_at hl 0 rfl) ?_
      refine lv_aload_n hx hb dX2_takeBit_38 rfl (lv_at hl 0 rfl) ?_
      refine va_get (ci := 2) (v := .ref r1) (C := RX2) (T := TX2) (N := 9) hx hb hts hi2 hown hK hP 0 rfl rfl 0 (by decide) fl11 (fun _ h9 => h9) rfl dX2_takeBit_39 ?_
      refine lv_iload_n hx hb dX2_takeBit_42 rfl (lv_at hl 1 rfl) ?_
      refine my_aald hx hb hK hP 1 rfl (vp_in_nI (n := 0) (by omega) (by omega)) dX2_takeBit_43 ?_
      refine my_eqa (y := .ref w0) (by rw [show (0 : Int32).toNatClampNeg = 0 by decide +kernel]; rfl) ?_
      refine lv_aload_n hx hb dX2_takeBit_44 rfl (lv_at hl 0 rfl) ?_
      refine va_get (ci := 2) (v := .ref r1) (C := RX2) (T := TX2) (N := 9) hx hb hts hi2 hown hK hP 0 rfl rfl 0 (by decide) fl11 (fun _ h9 => h9) rfl dX2_takeBit_45 ?_
      refine lv_iload_n hx hb dX2_takeBit_48 rfl (lv_at hl 1 rfl) ?_
      refine lv_iconst (v := 1) hx hb dX2_takeBit_49 (by decide +kernel) ?_
      refine lv_iadd hx hb dX2_takeBit_50 ?_
      refine my_eqi (y := 1) (by decide +kernel) ?_
      refine my_aald hx hb hK hP 1 rfl (vp_in_nI (n := 1) (by omega) (by omega)) dX2_takeBit_51 ?_
      refine my_eqa (y := .ref w1) (by rw [show (1 : Int32).toNatClampNeg = 1 by decide +kernel]; rfl) ?_
      refine lv_aload_n hx hb dX2_takeBit_52 rfl (lv_at hl 0 rfl) ?_
      refine va_get (ci := 2) (v := .ref r3) (C := RX2) (T := TX2) (N := 9) hx hb hts hi2 hown hK hP 0 rfl rfl 2 (by decide) fl20 (fun _ h9 => h9) rfl dX2_takeBit_53 ?_
      refine lv_iload_n hx hb dX2_takeBit_56 rfl (lv_at hl 1 rfl) ?_
      refine va_iald hx hb hK hP 3 0 rfl rfl (vp_in_nI (n := 0) (by omega) (by omega)) dX2_takeBit_57 ?_
      refine my_eqi (y := nI b) ((congrArg rt (show (0 : Int32).toNatClampNeg = 0 by decide +kernel)).trans hrt) ?_
      refine my_goVS (wc := (wl_kf_X2_part cI cJ cK xr r1 r2 r3 r4 r5 w0 w1 (nI rz) (nI rv) rw rk ro wf0 wf1)) hP hD hS hA [0, 2, 5, 6] rfl [some 0, none, some 1, none, none, some 2, some 3] (by decide +kernel) (my_cV (As := [.ref w0, .ref w1, .int (nI b)]) (rest := []) (ci := 2) (wc := (wl_kf_X2_part cI cJ cK xr r1 r2 r3 r4 r5 w0 w1 (nI rz) (nI rv) rw rk ro wf0 wf1)) ⟨hx, hb, hml, hown, hts⟩ (cwV 3 hts gX2_takeBit_X2_part rfl rfl rfl (by decide +kernel) ⟨Nat.le_of_ble_eq_true rfl, Nat.le_of_ble_eq_true rfl⟩) hN hK hP hD [0, 2, 5, 6] rfl (by decide) rfl 0 rfl rfl rfl rfl hl.1 rfl (Nat.le_of_ble_eq_true rfl) dX2_takeBit_58 ⟨Nat.le_of_ble_eq_true rfl, Nat.le_of_ble_eq_true rfl⟩  ((kf_X2_part l D cI cJ cK xr r1 r2 r3 r4 r5 w0 w1 rz rv rw rk ro wf0 wf1 b vg (by first | assumption | omega | decide +kernel) (by first | assumption | omega | decide +kernel) (by first | assumption | omega | decide +kernel) (by first | assumption | omega | decide +kernel)) _)) (fun u H locs hp hPD hS => ?_)
      obtain ⟨ro_1, wfb_2, rfl, hpl, ht_3⟩ := hp
      obtain ⟨hP, hD⟩ := hPD rfl
      have hP : va_P D vwCl (wl_kf_X2_takeBit_0 cI cJ cK xr r1 r2 r3 r4 r5 w0 w1 w2 w3 w4 w5 w6 w7 (nI rz) (nI rv) rw rk ro_1 rt rb wf0 wfb_2 wf2 wf3 wf4 wf5 wf6 wf7) H := hP
      have hD : va_D A (wl_kf_X2_takeBit_0 cI cJ cK xr r1 r2 r3 r4 r5 w0 w1 w2 w3 w4 w5 w6 w7 (nI rz) (nI rv) rw rk ro_1 rt rb wf0 wfb_2 wf2 wf3 wf4 wf5 wf6 wf7) := hD
      refine lv_aload_n hx hb dX2_takeBit_61 rfl (lv_at hl 0 rfl) ?_
      refine lv_iload_n hx hb dX2_takeBit_62 rfl (lv_at hl 1 rfl) ?_
      refine lv_iconst (v := 1) hx hb dX2_takeBit_63 (by decide +kernel) ?_
      refine lv_iadd hx hb dX2_takeBit_64 ?_
      refine my_eqi (y := 1) (by decide +kernel) ?_
      refine lv_iload_n hx hb dX2_takeBit_65 rfl (lv_at hl 2 rfl) ?_
      refine lv_iload_n hx hb dX2_takeBit_66 rfl (lv_at hl 3 rfl) ?_
      refine my_goVS (wc := (wl_kf_X2_tryBits_1 cI cJ cK xr r1 r2 r3 r4 r5 w0 w1 w2 w3 w4 w5 w6 w7 (nI rz) (nI rv) rw rk ro_1 rt rb wfb_2 wf2 wf3 wf4 wf5 wf6 wf7)) hP hD hS hA [0, 1, 2, 3, 4, 6, 7, 8, 9, 10, 11, 12] rfl [some 0, some 1, some 2, some 3, some 4, none, some 5, some 6, some 7, some 8, some 9, some 10, some 11] (by decide +kernel) (my_cV (As := [.int 1, .int (nI O), .int (nI ru)]) (rest := []) (ci := 2) (wc := (wl_kf_X2_tryBits_1 cI cJ cK xr r1 r2 r3 r4 r5 w0 w1 w2 w3 w4 w5 w6 w7 (nI rz) (nI rv) rw rk ro_1 rt rb wfb_2 wf2 wf3 wf4 wf5 wf6 wf7)) ⟨hx, hb, hml, hown, hts⟩ (cwV 3 hts gX2_takeBit_X2_tryBits rfl rfl rfl (by decide +kernel) ⟨Nat.le_of_ble_eq_true rfl, Nat.le_of_ble_eq_true rfl⟩) hN hK hP hD [0, 1, 2, 3, 4, 6, 7, 8, 9, 10, 11, 12] rfl (by decide) rfl 0 rfl rfl rfl rfl hl.1 rfl (Nat.le_of_ble_eq_true rfl) dX2_takeBit_67 ⟨Nat.le_of_ble_eq_true rfl, Nat.le_of_ble_eq_true rfl⟩  ((kf_X2_tryBits_1 l D cI cJ cK xr r1 r2 r3 r4 r5 w0 w1 w2 w3 w4 w5 w6 w7 rz rv rw rk ro_1 rt rb wfb_2 wf2 wf3 wf4 wf5 wf6 wf7 O ru F (tP vg b rz) (by first | assumption | omega | decide +kernel) (by first | assumption | omega | decide +kernel) (by first | assumption | omega | decide +kernel) (by first | assumption | omega | decide +kernel) (by first | assumption | omega | decide +kernel) (by first | assumption | omega | decide +kernel) (hpl) (tP_8 hv8) (fun c hc hs => tV_p.mpr (hvr c hc hs)) (by first | assumption | omega | decide +kernel) (Or.inl (by have h9 := oS_pos hO (by omega); omega))) _)) (fun u H locs hp hPD hS => ?_)
      obtain ⟨rw_4, rk_5, ro_6, rt_7, rb_8, wf2_9, wf3_10, wf4_11, wf5_12, wf6_13, wf7_14, rfl, ht_15, hfw1⟩ := hp
      obtain ⟨hP, hD⟩ := hPD rfl
      have hP : va_P D vwCl (wl_kf_X2_takeBit_0 cI cJ cK xr r1 r2 r3 r4 r5 w0 w1 w2 w3 w4 w5 w6 w7 (nI rz) (nI rv) rw_4 rk_5 ro_6 rt_7 rb_8 wf0 wfb_2 wf2_9 wf3_10 wf4_11 wf5_12 wf6_13 wf7_14) H := hP
      have hD : va_D A (wl_kf_X2_takeBit_0 cI cJ cK xr r1 r2 r3 r4 r5 w0 w1 w2 w3 w4 w5 w6 w7 (nI rz) (nI rv) rw_4 rk_5 ro_6 rt_7 rb_8 wf0 wfb_2 wf2_9 wf3_10 wf4_11 wf5_12 wf6_13 wf7_14) := hD
      exact my_retV hx hb hr hlocks hK hS (wl_kf_X2_takeBit_0 cI cJ cK xr r1 r2 r3 r4 r5 w0 w1 w2 w3 w4 w5 w6 w7 (nI rz) (nI rv) rw_4 rk_5 ro_6 rt_7 rb_8 wf0 wfb_2 wf2_9 wf3_10 wf4_11 wf5_12 wf6_13 wf7_14) hP hD (⟨rw_4, rk_5, ro_6, rt_7, rb_8, wfb_2, wf2_9, wf3_10, wf4_11, wf5_12, wf6_13, wf7_14, rfl, (by first | assumption | omega | trivial | decide +kernel), (by first | exact tk_0 (by omega) (by omega) hru | (rw [show ((rv - 1) - 0) = rv - 1 from (by omega)]; exact hfw1) | (exfalso; have h9 := oS_pos hO (by omega); omega))⟩) dX2_takeBit_70
  ·
    have d1 : ((O : Nat) : Int) = (0 : Int) := my_eq c1 (nI_toInt (by omega)) (by decide +kernel)
    refine lv_aload_n hx hb dX2_takeBit_4 rfl (lv_at hl 0 rfl) ?_
    refine lv_iload_n hx hb dX2_takeBit_5 rfl (lv_at hl 3 rfl) ?_
    refine va_put (ci := 2) (v := .int (nI ru)) (ty := (.int)) (C := RX2) (T := TX2) (N := 9) hx hb hts hi2 tyX2 tyX2_ok nmX2 hown hK hP hD hS 0 rfl rfl 7 (by decide) fl37 (fun _ h9 => h9) rfl (by decide +kernel) rfl rfl (Nat.le_of_ble_eq_true rfl) dX2_takeBit_6 (fun H locs hP hD hS => ?_)
    have hP : va_P D vwCl (wl_kf_X2_takeBit_0 cI cJ cK xr r1 r2 r3 r4 r5 w0 w1 w2 w3 w4 w5 w6 w7 (nI rz) (nI rv) (nI ru) rk ro rt rb wf0 wf1 wf2 wf3 wf4 wf5 wf6 wf7) H := hP
    have hD : va_D A (wl_kf_X2_takeBit_0 cI cJ cK xr r1 r2 r3 r4 r5 w0 w1 w2 w3 w4 w5 w6 w7 (nI rz) (nI rv) (nI ru) rk ro rt rb wf0 wf1 wf2 wf3 wf4 wf5 wf6 wf7) := hD
    refine lv_aload_n hx hb dX2_takeBit_9 rfl (lv_at hl 0 rfl) ?_
    refine va_get (ci := 2) (v := .ref r3) (C := RX2) (T := TX2) (N := 9) hx hb hts hi2 hown hK hP 0 rfl rfl 2 (by decide) fl20 (fun _ h9 => h9) rfl dX2_takeBit_10 ?_
    refine lv_iconst (v := 0) hx hb dX2_takeBit_13 (by decide +kernel) ?_
    refine lv_aload_n hx hb dX2_takeBit_14 rfl (lv_at hl 0 rfl) ?_
    refine va_get (ci := 2) (v := .ref r4) (C := RX2) (T := TX2) (N := 9) hx hb hts hi2 hown hK hP 0 rfl rfl 3 (by decide) fl24 (fun _ h9 => h9) rfl dX2_takeBit_15 ?_
    refine lv_iconst (v := 0) hx hb dX2_takeBit_18 (by decide +kernel) ?_
    refine lv_aload_n hx hb dX2_takeBit_19 rfl (lv_at hl 0 rfl) ?_
    refine va_get (ci := 2) (v := .int (nI rv)) (C := RX2) (T := TX2) (N := 9) hx hb hts hi2 hown hK hP 0 rfl rfl 6 (by decide) fl34 (fun _ h9 => h9) rfl dX2_takeBit_20 ?_
    refine va_copyi hx hb (hml.trans hl.1.symm) hown (hts (.methodLink RX2 75 arraycopyName) (by decide +kernel)) (hts (.native arraycopyName) (by decide +kernel)) (hts (.static arraycopyName) (by decide +kernel)) (hts (.initialized "java/lang/System") (by decide +kernel)) hK hP hD hS 3 4 0 0 rfl rfl rfl rfl rfl (by decide +kernel) (by decide +kernel) (nI_nneg (by omega)) (by rw [show (0 : Int32).toNatClampNeg = 0 from (by decide +kernel), show (nI rv : Int32).toNatClampNeg = rv from (nI_clamp (by omega))]; omega) (by rw [show (0 : Int32).toNatClampNeg = 0 from (by decide +kernel), show (nI rv : Int32).toNatClampNeg = rv from (nI_clamp (by omega))]; omega) (fun _ _ => rfl) (Nat.le_of_ble_eq_true rfl) (Nat.le_of_ble_eq_true rfl) dX2_takeBit_23 (fun H locs hP hD hS => ?_)
    obtain ⟨g_16, eg_16⟩ : ∃ g : Nat → Int32, g = va_cpy rt rb 0 0 rv := ⟨_, rfl⟩
    have eU : va_cpy rt rb (0 : Int32).toNatClampNeg (0 : Int32).toNatClampNeg (nI rv : Int32).toNatClampNeg = g_16 := by rw [eg_16, show (0 : Int32).toNatClampNeg = 0 from (by decide +kernel), show (nI rv : Int32).toNatClampNeg = rv from (nI_clamp (by omega))]
    rw [eU] at hP hD
    have hP : va_P D vwCl (wl_kf_X2_takeBit_0 cI cJ cK xr r1 r2 r3 r4 r5 w0 w1 w2 w3 w4 w5 w6 w7 (nI rz) (nI rv) (nI ru) rk ro rt g_16 wf0 wf1 wf2 wf3 wf4 wf5 wf6 wf7) H := hP
    have hD : va_D A (wl_kf_X2_takeBit_0 cI cJ cK xr r1 r2 r3 r4 r5 w0 w1 w2 w3 w4 w5 w6 w7 (nI rz) (nI rv) (nI ru) rk ro rt g_16 wf0 wf1 wf2 wf3 wf4 wf5 wf6 wf7) := hD
    refine lv_goto (tgt := 70) hx hb dX2_takeBit_26 (by decide) ?_
    exact my_retV hx hb hr hlocks hK hS (wl_kf_X2_takeBit_0 cI cJ cK xr r1 r2 r3 r4 r5 w0 w1 w2 w3 w4 w5 w6 w7 (nI rz) (nI rv) (nI ru) rk ro rt g_16 wf0 wf1 wf2 wf3 wf4 wf5 wf6 wf7) hP hD (⟨(nI ru), rk, ro, rt, g_16, wf1, wf2, wf3, wf4, wf5, wf6, wf7, rfl, (by first | assumption | omega | trivial | decide +kernel), (by first | exact tk_0 (by omega) (by omega) hru | (rw [show ((rv - 1) - 0) = rv - 1 from (by omega)]; exact hfw1) | (exfalso; have h9 := oS_pos hO (by omega); omega))⟩) dX2_takeBit_70
abbrev wl_kf_X2_tryBits_0 (cI cJ cK : ClassId) (xr : Nat) (r1 : Nat) (r2 : Nat) (r3 : Nat) (r4 : Nat) (r5 : Nat) (w0 : Nat) (w1 : Nat) (w2 : Nat) (w3 : Nat) (w4 : Nat) (w5 : Nat) (w6 : Nat) (w7 : Nat) (v0_ : Int32) (v1_ : Int32) (v2_ : Int32) (v3_ : Int32) (v4_ : Nat → Int64) (v5_ : Nat → Int32) (v6_ : Nat → Int32) (v7_ : Nat → Int64) (v8_ : Nat → Int64) (v9_ : Nat → Int64) (v10_ : Nat → Int64) (v11_ : Nat → Int64) (v12_ : Nat → Int64) (v13_ : Nat → Int64) (v14_ : Nat → Int64) : va_W := [(xr, .inr (2, [.ref r1, .ref r2, .ref r3, .ref r4, .ref r5, .int v0_, .int v1_, .int v2_, .int v3_])), (r1, .inl (cK, 8, .inr (.inr (.inr (.inr (fun j => ([w0, w1, w2, w3, w4, w5, w6, w7] : List Nat)[j]?)))))), (r2, .inl (cJ, 64, .inr (.inl v4_))), (r3, .inl (cI, 8, .inl v5_)), (r4, .inl (cI, 8, .inl v6_)), (w0, .inl (cJ, 64, .inr (.inl v7_))), (w1, .inl (cJ, 64, .inr (.inl v8_))), (w2, .inl (cJ, 64, .inr (.inl v9_))), (w3, .inl (cJ, 64, .inr (.inl v10_))), (w4, .inl (cJ, 64, .inr (.inl v11_))), (w5, .inl (cJ, 64, .inr (.inl v12_))), (w6, .inl (cJ, 64, .inr (.inl v13_))), (w7, .inl (cJ, 64, .inr (.inl v14_)))]
set_option maxHeartbeats 4000000 in
set_option maxRecDepth 100000 in
theorem kf_X2_tryBits_0 (l : Launch) (D : va_G) (cI cJ cK : ClassId) (xr : Nat) (r1 : Nat) (r2 : Nat) (r3 : Nat) (r4 : Nat) (r5 : Nat) (w0 : Nat) (w1 : Nat) (w2 : Nat) (w3 : Nat) (w4 : Nat) (w5 : Nat) (w6 : Nat) (w7 : Nat) (rz : Nat) (rv : Nat) (rw : Int32) (rk : Int32) (ro : Nat → Int64) (rt : Nat → Int32) (rb : Nat → Int32) (wf0 : Nat → Int64) (wf1 : Nat → Int64) (wf2 : Nat → Int64) (wf3 : Nat → Int64) (wf4 : Nat → Int64) (wf5 : Nat → Int64) (wf6 : Nat → Int64) (wf7 : Nat → Int64) (O : Nat) (ra : Nat) (F : Nat) (vg : Nat → Nat) (hz_rz : rz ≤ 64) (hz_rv : rv ≤ 8) (hO : O < 256) (hra : ra ≤ 0) (hF : F ≤ 513) (hfw : rw = nI F) (hln : ∀ i, i < rz → wf0 i = lN (laN (vg i))) (hv8 : ∀ i, i < rz → vg i < 256) (hvr : ∀ c, c < 8 → oS O c = true → tV vg rz c) (hcd : tC (oS O) + 0 = rv) (hj0 : 0 < rv ∨ F = 0) : ctV l yX2_tryBits wsX2_tryBits ({ frames := 17, cells := 0, slots := 0, locals := 1020 } : Room) D (tyIJ cI cJ cK) [.ref xr, .int 0, .int (nI O), .int (nI ra)] (wl_kf_X2_tryBits_0 cI cJ cK xr r1 r2 r3 r4 r5 w0 w1 w2 w3 w4 w5 w6 w7 (nI rz) (nI rv) rw rk ro rt rb wf0 wf1 wf2 wf3 wf4 wf5 wf6 wf7) (fun (u : va_W) => ∃ (rw' : Int32) (rk' : Int32) (ro' : Nat → Int64) (rt' : Nat → Int32) (rb' : Nat → Int32) (wf1' : Nat → Int64) (wf2' : Nat → Int64) (wf3' : Nat → Int64) (wf4' : Nat → Int64) (wf5' : Nat → Int64) (wf6' : Nat → Int64) (wf7' : Nat → Int64), u = (wl_kf_X2_tryBits_0 cI cJ cK xr r1 r2 r3 r4 r5 w0 w1 w2 w3 w4 w5 w6 w7 (nI rz) (nI rv) rw' rk' ro' rt' rb' wf0 wf1' wf2' wf3' wf4' wf5' wf6' wf7') ∧ True ∧ rw' = nI (min F (ra + tT rz (rv - 0) vg (oS O)))) := by
  refine ctV.of (cc := cX2_tryBits) (maxL := 9) (ret := none) (by decide) rfl (Nat.le_of_ble_eq_true rfl) ?_
  intro p e s m below meth c ls A hx hb hr hts hown hml hlocks hname hA hK hN hP hD hS hl
  have hl : lv_has ls 9 [(0, .ref xr), (1, .int 0), (2, .int (nI O)), (3, .int (nI ra))] := hl
  have hown : s.vm.findClass RX2 = some m.cls := hown
  have hi2 : ∀ w ∈ u_ws RX2 TX2 9, w ∈ wsX2_tryBits := by decide +kernel
  have fl11 := hts (.fieldLink RX2 11 "PlaneColumn$OrderSearch" "lines" "[[J") (by decide +kernel)
  have fl20 := hts (.fieldLink RX2 20 "PlaneColumn$OrderSearch" "tried" "[I") (by decide +kernel)
  have fl34 := hts (.fieldLink RX2 34 "PlaneColumn$OrderSearch" "variedCount" "I") (by decide +kernel)
  have fl37 := hts (.fieldLink RX2 37 "PlaneColumn$OrderSearch" "fewest" "I") (by decide +kernel)
  refine lv_iload_n hx hb dX2_tryBits_0 rfl (lv_at hl 1 rfl) ?_
  refine lv_aload_n hx hb dX2_tryBits_1 rfl (lv_at hl 0 rfl) ?_
  refine va_get (ci := 2) (v := .int (nI rv)) (C := RX2) (T := TX2) (N := 9) hx hb hts hi2 hown hK hP 0 rfl rfl 6 (by decide) fl34 (fun _ h9 => h9) rfl dX2_tryBits_2 ?_
  refine lv_icmp_ge (tgt := 14) hx hb dX2_tryBits_5 (by decide) (fun c5 => ?_) (fun c5 => ?_)
  ·
    have d5 : (0 : Int) ≥ ((rv : Nat) : Int) := my_ge c5 (by decide +kernel) (nI_toInt (by omega))
    exact my_retV hx hb hr hlocks hK hS (wl_kf_X2_tryBits_0 cI cJ cK xr r1 r2 r3 r4 r5 w0 w1 w2 w3 w4 w5 w6 w7 (nI rz) (nI rv) rw rk ro rt rb wf0 wf1 wf2 wf3 wf4 wf5 wf6 wf7) hP hD (⟨rw, rk, ro, rt, rb, wf1, wf2, wf3, wf4, wf5, wf6, wf7, rfl, (by first | assumption | omega | trivial | decide +kernel), (by first | exact tc_end hfw2 (by omega) (by omega) | exact tc_no hfw (by omega))⟩) dX2_tryBits_14
  ·
    have d5 : (0 : Int) < ((rv : Nat) : Int) := my_nge c5 (by decide +kernel) (nI_toInt (by omega))
    refine lv_iload_n hx hb dX2_tryBits_8 rfl (lv_at hl 1 rfl) ?_
    refine lv_bipush (v := 8) hx hb dX2_tryBits_9 (by decide +kernel) ?_
    refine lv_icmp_lt (tgt := 15) hx hb dX2_tryBits_11 (by decide) (fun c11 => ?_) (fun c11 => ?_)
    ·
      refine lv_aload_n hx hb dX2_tryBits_15 rfl (lv_at hl 0 rfl) ?_
      refine lv_aload_n hx hb dX2_tryBits_16 rfl (lv_at hl 0 rfl) ?_
      refine va_get (ci := 2) (v := .ref r1) (C := RX2) (T := TX2) (N := 9) hx hb hts hi2 hown hK hP 0 rfl rfl 0 (by decide) fl11 (fun _ h9 => h9) rfl dX2_tryBits_17 ?_
      refine lv_iload_n hx hb dX2_tryBits_20 rfl (lv_at hl 1 rfl) ?_
      refine my_aald hx hb hK hP 1 rfl (vp_in_nI (n := 0) (by omega) (by omega)) dX2_tryBits_21 ?_
      refine my_eqa (y := .ref w0) (by rw [show (0 : Int32).toNatClampNeg = 0 by decide +kernel]; rfl) ?_
      refine my_gpL (my_pV (As := [.ref w0]) (rest := []) (ci := 2) ⟨hx, hb, hml, hown, hts⟩ (cwV 1 hts gX2_tryBits_X2_changesOf rfl rfl rfl (by decide +kernel) ⟨Nat.le_of_ble_eq_true rfl, Nat.le_of_ble_eq_true rfl⟩) hN hK hP [0, 5] rfl 0 rfl rfl rfl rfl hl.1 rfl (Nat.le_of_ble_eq_true rfl) dX2_tryBits_22 ⟨Nat.le_of_ble_eq_true rfl, Nat.le_of_ble_eq_true rfl⟩  (kf_X2_changesOf l D cI cJ cK xr r1 r2 r3 r4 r5 w0 rz rv rw rk wf0 vg (by first | assumption | omega | decide +kernel) (by first | assumption | omega | decide +kernel) (by first | assumption | omega | decide +kernel) (by first | assumption | omega | decide +kernel))) (fun r hp => ?_)
      obtain ⟨c_1, rfl, hcc, ht_2⟩ := hp
      refine lv_lstore (lv' := [(4, .long (lN c_1)), (0, .ref xr), (1, .int 0), (2, .int (nI O)), (3, .int (nI ra))]) hx hb dX2_tryBits_25 hl (by decide) rfl (fun ls hl => ?_)
      refine lv_iconst (v := 2) hx hb dX2_tryBits_27 (by decide +kernel) ?_
      refine lv_aload_n hx hb dX2_tryBits_28 rfl (lv_at hl 1 rfl) ?_
      refine va_get (ci := 2) (v := .int (nI rv)) (C := RX2) (T := TX2) (N := 9) hx hb hts hi2 hown hK hP 0 rfl rfl 6 (by decide) fl34 (fun _ h9 => h9) rfl dX2_tryBits_29 ?_
      refine lv_iconst (v := 1) hx hb dX2_tryBits_32 (by decide +kernel) ?_
      refine lv_isub hx hb dX2_tryBits_33 ?_
      refine my_eqi (y := nI (rv - 1)) (my_subN (a := rv) (b := 1) (by omega)) ?_
      refine lv_iload_n hx hb dX2_tryBits_34 rfl (lv_at hl 2 rfl) ?_
      refine lv_isub hx hb dX2_tryBits_35 ?_
      refine my_eqi (y := nI ((rv - 1) - 0)) (my_subN (a := rv - 1) (b := 0) (by omega)) ?_
      refine lv_imul hx hb dX2_tryBits_36 ?_
      refine my_eqi (y := nI (2 * ((rv - 1) - 0))) (my_mulN _ _) ?_
      refine lv_istore (lv' := [(6, .int (nI (2 * ((rv - 1) - 0)))), (4, .long (lN c_1)), (0, .ref xr), (1, .int 0), (2, .int (nI O)), (3, .int (nI ra))]) hx hb dX2_tryBits_37 hl (by decide) rfl (fun ls hl => ?_)
      refine lv_bipush (v := 7) hx hb dX2_tryBits_39 (by decide +kernel) ?_
      refine lv_istore (lv' := [(7, .int 7), (6, .int (nI (2 * ((rv - 1) - 0)))), (4, .long (lN c_1)), (0, .ref xr), (1, .int 0), (2, .int (nI O)), (3, .int (nI ra))]) hx hb dX2_tryBits_41 hl (by decide) rfl (fun ls hl => ?_)
      have loop43 : ∀ (n9 : Nat) (x : Int32) (xr_fewest_43 : Int32) (xr_known_43 : Int32) (r2_43 : Nat → Int64) (r3_43 : Nat → Int32) (r4_43 : Nat → Int32) (w1_43 : Nat → Int64) (w2_43 : Nat → Int64) (w3_43 : Nat → Int64) (w4_43 : Nat → Int64) (w5_43 : Nat → Int64) (w6_43 : Nat → Int64) (w7_43 : Nat → Int64), (x.toInt + 1).toNat < n9 → (-1 ≤ x.toInt) → (x.toInt ≤ 7) → (xr_fewest_43 = nI (min F (ra + tM (tF rz ((rv - 1) - 0) vg (oS O)) (oS O) (7 - x.toInt).toNat))) → ∀ (H : Heap) (locs : List Loc) (ls : Array Slot), va_P D vwCl (wl_kf_X2_tryBits_0 cI cJ cK xr r1 r2 r3 r4 r5 w0 w1 w2 w3 w4 w5 w6 w7 (nI rz) (nI rv) xr_fewest_43 xr_known_43 r2_43 r3_43 r4_43 wf0 w1_43 w2_43 w3_43 w4_43 w5_43 w6_43 w7_43) H → va_D A (wl_kf_X2_tryBits_0 cI cJ cK xr r1 r2 r3 r4 r5 w0 w1 w2 w3 w4 w5 w6 w7 (nI rz) (nI rv) xr_fewest_43 xr_known_43 r2_43 r3_43 r4_43 wf0 w1_43 w2_43 w3_43 w4_43 w5_43 w6_43 w7_43) → va_S A s.heap H locs → lv_has ls 9 [(7, .int x), (6, .int (nI (2 * ((rv - 1) - 0)))), (4, .long (lN c_1)), (0, .ref xr), (1, .int 0), (2, .int (nI O)), (3, .int (nI ra))] → W p l e ({ frames := 17, cells := 0, slots := 0, locals := 1020 } : Room) s m [.ref xr, .int 0, .int (nI O), .int (nI ra)].toArray below meth c H locs 0 0 (MQ below (va_Qv (fun (u : va_W) => ∃ (rw' : Int32) (rk' : Int32) (ro' : Nat → Int64) (rt' : Nat → Int32) (rb' : Nat → Int32) (wf1' : Nat → Int64) (wf2' : Nat → Int64) (wf3' : Nat → Int64) (wf4' : Nat → Int64) (wf5' : Nat → Int64) (wf6' : Nat → Int64) (wf7' : Nat → Int64), u = (wl_kf_X2_tryBits_0 cI cJ cK xr r1 r2 r3 r4 r5 w0 w1 w2 w3 w4 w5 w6 w7 (nI rz) (nI rv) rw' rk' ro' rt' rb' wf0 wf1' wf2' wf3' wf4' wf5' wf6' wf7') ∧ True ∧ rw' = nI (min F (ra + tT rz (rv - 0) vg (oS O)))) (my_B D (tyIJ cI cJ cK) A) A) [.ref xr, .int 0, .int (nI O), .int (nI ra)].toArray s 0 0 A) (F0 m 43 ls []) := by
        intro n9
        induction n9 with
        | zero =>
          intro x xr_fewest_43 xr_known_43 r2_43 r3_43 r4_43 w1_43 w2_43 w3_43 w4_43 w5_43 w6_43 w7_43 hn9
          exact absurd hn9 (Nat.not_lt_zero _)
        | succ n9 ih43 =>
          intro x xr_fewest_43 xr_known_43 r2_43 r3_43 r4_43 w1_43 w2_43 w3_43 w4_43 w5_43 w6_43 w7_43 hn9 hx0 hx1 hfw2 H locs ls hP hD hS hl
          have hfi : xr_fewest_43.toInt = (((min F (ra + tM (tF rz ((rv - 1) - 0) vg (oS O)) (oS O) (7 - x.toInt).toNat)) : Nat) : Int) := by rw [hfw2]; exact nI_toInt (by omega)
          refine lv_iload hx hb dX2_tryBits_43 (lv_at hl 0 rfl) ?_
          refine lv_if_lt (tgt := 117) hx hb dX2_tryBits_45 (by decide) (fun c45 => ?_) (fun c45 => ?_)
          ·
            have d45 : x.toInt < (0 : Int) := my_lt c45 rfl (by decide +kernel)
            exact my_retV hx hb hr hlocks hK hS (wl_kf_X2_tryBits_0 cI cJ cK xr r1 r2 r3 r4 r5 w0 w1 w2 w3 w4 w5 w6 w7 (nI rz) (nI rv) xr_fewest_43 xr_known_43 r2_43 r3_43 r4_43 wf0 w1_43 w2_43 w3_43 w4_43 w5_43 w6_43 w7_43) hP hD (⟨xr_fewest_43, xr_known_43, r2_43, r3_43, r4_43, w1_43, w2_43, w3_43, w4_43, w5_43, w6_43, w7_43, rfl, (by first | assumption | omega | trivial | decide +kernel), (by first | exact tc_end hfw2 (by omega) (by omega) | exact tc_no hfw (by omega))⟩) dX2_tryBits_117
          ·
            have d45 : x.toInt ≥ (0 : Int) := my_nlt c45 rfl (by decide +kernel)
            obtain ⟨w_3, rfl, hw_3⟩ := my_natP (x := x) (by omega)
            refine lv_iload_n hx hb dX2_tryBits_48 rfl (lv_at hl 6 rfl) ?_
            refine lv_iconst (v := 1) hx hb dX2_tryBits_49 (by decide +kernel) ?_
            refine lv_iadd hx hb dX2_tryBits_50 ?_
            refine my_eqi (y := nI (ra + 1)) (my_addN ra 1) ?_
            refine lv_lload hx hb dX2_tryBits_51 (lv_at hl 2 rfl) ?_
            refine lv_bipush (v := 8) hx hb dX2_tryBits_53 (by decide +kernel) ?_
            refine lv_iload hx hb dX2_tryBits_55 (lv_at hl 0 rfl) ?_
            refine lv_imul hx hb dX2_tryBits_57 ?_
            refine my_eqi (y := nI (8 * w_3)) (my_mulN _ _) ?_
            have hclt : c_1 < 18446744073709551616 := by rw [hcc]; exact chS_lt vg hz_rz
            refine lv_lushr (v := lN (c_1 / 256 ^ w_3)) hx hb dX2_tryBits_58 (ush_8 hclt (by omega)) ?_
            refine lv_ldc2 (v := 255) hx hb hown (hts (.constantLong RX2 70 (255)) (by decide +kernel)) dX2_tryBits_59 ?_
            refine lv_land hx hb dX2_tryBits_62 ?_
            refine my_eql (y := lN (c_1 / 256 ^ w_3 % 256)) (and_255 (Nat.lt_of_le_of_lt (Nat.div_le_self _ _) hclt)) ?_
            refine lv_l2i (v := nI (c_1 / 256 ^ w_3 % 256)) hx hb dX2_tryBits_63 (l2i_N (by omega)) ?_
            refine lv_iadd hx hb dX2_tryBits_64 ?_
            refine my_eqi (y := nI (ra + 1 + c_1 / 256 ^ w_3 % 256)) (nI_add _ _) ?_
            refine lv_istore (lv' := [(8, .int (nI (ra + 1 + c_1 / 256 ^ w_3 % 256))), (7, .int (nI w_3)), (6, .int (nI (2 * ((rv - 1) - 0)))), (4, .long (lN c_1)), (0, .ref xr), (1, .int 0), (2, .int (nI O)), (3, .int (nI ra))]) hx hb dX2_tryBits_65 hl (by decide) rfl (fun ls hl => ?_)
            refine lv_iload_n hx hb dX2_tryBits_67 rfl (lv_at hl 6 rfl) ?_
            refine lv_iload hx hb dX2_tryBits_68 (lv_at hl 1 rfl) ?_
            refine lv_ishr hx hb dX2_tryBits_70 ?_
            refine my_eqi (y := nI (O / 2 ^ w_3)) (my_shrG (by omega) (by omega)) ?_
            refine lv_iconst (v := 1) hx hb dX2_tryBits_71 (by decide +kernel) ?_
            refine lv_iand hx hb dX2_tryBits_72 ?_
            refine my_eqi (y := nI ((O / 2 ^ w_3) % 2)) (my_maskN _ 1) ?_
            refine lv_if_eq (tgt := 111) hx hb dX2_tryBits_73 (by decide) (fun c73 => ?_) (fun c73 => ?_)
            ·
              have d73 : (((O / 2 ^ w_3) % 2 : Nat) : Int) = (0 : Int) := my_eq c73 (nI_toInt (by omega)) (by decide +kernel)
              obtain ⟨z_4, ez_4⟩ : ∃ y : Int32, y = nI w_3 + (-1) := ⟨_, rfl⟩
              try have tz_4 : z_4.toInt = ((w_3 : Nat) : Int) + (-1) := by rw [ez_4]; exact my_addI (nI_toInt (by omega)) (by decide +kernel) (by omega) (by omega)
              refine lv_iinc (v := z_4) (lv' := [(7, .int z_4), (8, .int (nI (ra + 1 + c_1 / 256 ^ w_3 % 256))), (6, .int (nI (2 * ((rv - 1) - 0)))), (4, .long (lN c_1)), (0, .ref xr), (1, .int 0), (2, .int (nI O)), (3, .int (nI ra))]) hx hb dX2_tryBits_111 hl (k := 1) rfl (by rw [ez_4]; rfl) (by decide) rfl (fun ls hl => ?_)
              refine lv_goto (tgt := 43) hx hb dX2_tryBits_114 (by decide) ?_
              exact ih43  z_4 xr_fewest_43 xr_known_43 r2_43 r3_43 r4_43 w1_43 w2_43 w3_43 w4_43 w5_43 w6_43 w7_43 (by omega) (by first | assumption | omega | decide +kernel) (by first | assumption | omega | decide +kernel) (by first | exact tc_skip hfw2 (by omega) (by omega) (by omega) (os_f d73 (by omega)) | exact tc_bound hfw2 (by omega) (by omega) (by omega) (os_t d73 (by omega)) (by omega) | exact tc_done hfw1 (by omega) (by omega) (by omega) (os_t d73 (by omega)) (rm_G hO (by omega) hbt hru9 (by omega))) _ _ ls hP hD hS (lv_sub hl [0, 2, 3, 4, 5, 6, 7] rfl)
            ·
              have d73 : (((O / 2 ^ w_3) % 2 : Nat) : Int) ≠ (0 : Int) := my_ne c73 (nI_toInt (by omega)) (by decide +kernel)
              have hbt : Nat.testBit O w_3 = true := bN_t (by rw [← bn_tb]; omega)
              have hrz : 0 < rz := by obtain ⟨i9, hi9, -⟩ := hvr w_3 (by omega) hbt; omega
              have hru9 : ra + 1 + c_1 / 256 ^ w_3 % 256 = ra + rnF (tB vg w_3) rz := by rw [hcc, chS_at (by omega) hz_rz, tG_rn hrz]; omega
              have hrl := rnF_le (tB vg w_3) rz
              have hlb : rnF (tB vg w_3) rz + 2 * ((rv - 1) - 0) ≤ (tF rz ((rv - 1) - 0) vg (oS O)) (nI w_3).toInt.toNat := by rw [show (nI w_3).toInt.toNat = w_3 from (by omega)]; exact th_lb (by omega) hvr
              refine lv_iload hx hb dX2_tryBits_76 (lv_at hl 0 rfl) ?_
              refine lv_iload hx hb dX2_tryBits_78 (lv_at hl 2 rfl) ?_
              refine lv_iadd hx hb dX2_tryBits_80 ?_
              refine my_eqi (y := nI (ra + 1 + c_1 / 256 ^ w_3 % 256 + (2 * ((rv - 1) - 0)))) (nI_add _ _) ?_
              refine lv_aload_n hx hb dX2_tryBits_81 rfl (lv_at hl 4 rfl) ?_
              refine va_get (ci := 2) (v := .int xr_fewest_43) (C := RX2) (T := TX2) (N := 9) hx hb hts hi2 hown hK hP 0 rfl rfl 7 (by decide) fl37 (fun _ h9 => h9) rfl dX2_tryBits_82 ?_
              refine lv_icmp_ge (tgt := 111) hx hb dX2_tryBits_85 (by decide) (fun c85 => ?_) (fun c85 => ?_)
              ·
                have d85 : ((ra + 1 + c_1 / 256 ^ w_3 % 256 + (2 * ((rv - 1) - 0)) : Nat) : Int) ≥ xr_fewest_43.toInt := my_ge c85 (nI_toInt (by omega)) rfl
                obtain ⟨z_5, ez_5⟩ : ∃ y : Int32, y = nI w_3 + (-1) := ⟨_, rfl⟩
                try have tz_5 : z_5.toInt = ((w_3 : Nat) : Int) + (-1) := by rw [ez_5]; exact my_addI (nI_toInt (by omega)) (by decide +kernel) (by omega) (by omega)
                refine lv_iinc (v := z_5) (lv' := [(7, .int z_5), (8, .int (nI (ra + 1 + c_1 / 256 ^ w_3 % 256))), (6, .int (nI (2 * ((rv - 1) - 0)))), (4, .long (lN c_1)), (0, .ref xr), (1, .int 0), (2, .int (nI O)), (3, .int (nI ra))]) hx hb dX2_tryBits_111 hl (k := 1) rfl (by rw [ez_5]; rfl) (by decide) rfl (fun ls hl => ?_)
                refine lv_goto (tgt := 43) hx hb dX2_tryBits_114 (by decide) ?_
                exact ih43  z_5 xr_fewest_43 xr_known_43 r2_43 r3_43 r4_43 w1_43 w2_43 w3_43 w4_43 w5_43 w6_43 w7_43 (by omega) (by first | assumption | omega | decide +kernel) (by first | assumption | omega | decide +kernel) (by first | exact tc_skip hfw2 (by omega) (by omega) (by omega) (os_f d73 (by omega)) | exact tc_bound hfw2 (by omega) (by omega) (by omega) (os_t d73 (by omega)) (by omega) | exact tc_done hfw1 (by omega) (by omega) (by omega) (os_t d73 (by omega)) (rm_G hO (by omega) hbt hru9 (by omega))) _ _ ls hP hD hS (lv_sub hl [0, 2, 3, 4, 5, 6, 7] rfl)
              ·
                have d85 : ((ra + 1 + c_1 / 256 ^ w_3 % 256 + (2 * ((rv - 1) - 0)) : Nat) : Int) < xr_fewest_43.toInt := my_nge c85 (nI_toInt (by omega)) rfl
                refine lv_aload_n hx hb dX2_tryBits_88 rfl (lv_at hl 4 rfl) ?_
                refine va_get (ci := 2) (v := .ref r3) (C := RX2) (T := TX2) (N := 9) hx hb hts hi2 hown hK hP 0 rfl rfl 2 (by decide) fl20 (fun _ h9 => h9) rfl dX2_tryBits_89 ?_
                refine lv_iload_n hx hb dX2_tryBits_92 rfl (lv_at hl 5 rfl) ?_
                refine lv_iload hx hb dX2_tryBits_93 (lv_at hl 1 rfl) ?_
                refine va_iast hx hb hK hP hD hS 3 0 rfl rfl (vp_in_nI (n := 0) (by omega) (by omega)) dX2_tryBits_95 (fun H locs hP hD hS => ?_)
                obtain ⟨g_6, eg_6⟩ : ∃ g : Nat → Int32, g = upd r3_43 0 (nI w_3) := ⟨_, rfl⟩
                have eU : upd r3_43 (0 : Int32).toNatClampNeg (nI w_3) = g_6 := by rw [eg_6, show (0 : Int32).toNatClampNeg = 0 from by decide +kernel]
                rw [eU] at hP hD
                have hP : va_P D vwCl (wl_kf_X2_tryBits_0 cI cJ cK xr r1 r2 r3 r4 r5 w0 w1 w2 w3 w4 w5 w6 w7 (nI rz) (nI rv) xr_fewest_43 xr_known_43 r2_43 g_6 r4_43 wf0 w1_43 w2_43 w3_43 w4_43 w5_43 w6_43 w7_43) H := hP
                have hD : va_D A (wl_kf_X2_tryBits_0 cI cJ cK xr r1 r2 r3 r4 r5 w0 w1 w2 w3 w4 w5 w6 w7 (nI rz) (nI rv) xr_fewest_43 xr_known_43 r2_43 g_6 r4_43 wf0 w1_43 w2_43 w3_43 w4_43 w5_43 w6_43 w7_43) := hD
                refine lv_aload_n hx hb dX2_tryBits_96 rfl (lv_at hl 4 rfl) ?_
                refine lv_iload_n hx hb dX2_tryBits_97 rfl (lv_at hl 5 rfl) ?_
                refine lv_iload_n hx hb dX2_tryBits_98 rfl (lv_at hl 6 rfl) ?_
                refine lv_iconst (v := 1) hx hb dX2_tryBits_99 (by decide +kernel) ?_
                refine lv_iload hx hb dX2_tryBits_100 (lv_at hl 1 rfl) ?_
                refine lv_ishl hx hb dX2_tryBits_102 ?_
                refine my_eqi (y := nI (2 ^ w_3)) (my_shl1 (by omega)) ?_
                refine lv_iconst (v := (-1)) hx hb dX2_tryBits_103 (by decide +kernel) ?_
                refine lv_ixor hx hb dX2_tryBits_104 ?_
                refine my_eqi (y := (nI (2 ^ w_3) ^^^ (-1))) (rfl) ?_
                refine lv_iand hx hb dX2_tryBits_105 ?_
                refine my_eqi (y := nI (O - 2 ^ w_3)) ((rm_b O hO _ (by omega) hbt).1) ?_
                refine lv_iload hx hb dX2_tryBits_106 (lv_at hl 0 rfl) ?_
                refine my_goVS (wc := (wl_kf_X2_takeBit_0 cI cJ cK xr r1 r2 r3 r4 r5 w0 w1 w2 w3 w4 w5 w6 w7 (nI rz) (nI rv) xr_fewest_43 xr_known_43 r2_43 g_6 r4_43 wf0 w1_43 w2_43 w3_43 w4_43 w5_43 w6_43 w7_43)) hP hD hS hA [0, 1, 2, 3, 4, 5, 6, 7, 8, 9, 10, 11, 12] rfl [some 0, some 1, some 2, some 3, some 4, some 5, some 6, some 7, some 8, some 9, some 10, some 11, some 12] (by decide +kernel) (my_cV (As := [.int 0, .int (nI (O - 2 ^ w_3)), .int (nI (ra + 1 + c_1 / 256 ^ w_3 % 256))]) (rest := []) (ci := 2) (wc := (wl_kf_X2_takeBit_0 cI cJ cK xr r1 r2 r3 r4 r5 w0 w1 w2 w3 w4 w5 w6 w7 (nI rz) (nI rv) xr_fewest_43 xr_known_43 r2_43 g_6 r4_43 wf0 w1_43 w2_43 w3_43 w4_43 w5_43 w6_43 w7_43)) ⟨hx, hb, hml, hown, hts⟩ (cwV 3 hts gX2_tryBits_X2_takeBit rfl rfl rfl (by decide +kernel) ⟨Nat.le_of_ble_eq_true rfl, Nat.le_of_ble_eq_true rfl⟩) hN hK hP hD [0, 1, 2, 3, 4, 5, 6, 7, 8, 9, 10, 11, 12] rfl (by decide) rfl 0 rfl rfl rfl rfl hl.1 rfl (Nat.le_of_ble_eq_true rfl) dX2_tryBits_108 ⟨Nat.le_of_ble_eq_true rfl, Nat.le_of_ble_eq_true rfl⟩  ((kf_X2_takeBit_0 l D cI cJ cK xr r1 r2 r3 r4 r5 w0 w1 w2 w3 w4 w5 w6 w7 rz rv xr_fewest_43 xr_known_43 r2_43 g_6 r4_43 wf0 w1_43 w2_43 w3_43 w4_43 w5_43 w6_43 w7_43 (O - 2 ^ w_3) (ra + 1 + c_1 / 256 ^ w_3 % 256) w_3 (min F (ra + tM (tF rz ((rv - 1) - 0) vg (oS O)) (oS O) (7 - (nI w_3).toInt).toNat)) vg (by first | assumption | omega | decide +kernel) (by first | assumption | omega | decide +kernel) (by first | assumption | omega | decide +kernel) (us_at (by assumption)) ((rm_b O hO _ (by omega) hbt).2.1) (by have h9 := rm_c hO (by omega) hbt; omega) (rm_v hO (by omega) hbt hvr) (hfw2) (by first | assumption | omega | decide +kernel) (by first | assumption | omega | decide +kernel) (by first | assumption | omega | decide +kernel) (by first | assumption | omega | decide +kernel) (by first | assumption | omega | decide +kernel)) _)) (fun u H locs hp hPD hS => ?_)
                obtain ⟨rw_7, rk_8, ro_9, rt_10, rb_11, wf1_12, wf2_13, wf3_14, wf4_15, wf5_16, wf6_17, wf7_18, rfl, ht_19, hfw1⟩ := hp
                obtain ⟨hP, hD⟩ := hPD rfl
                have hP : va_P D vwCl (wl_kf_X2_tryBits_0 cI cJ cK xr r1 r2 r3 r4 r5 w0 w1 w2 w3 w4 w5 w6 w7 (nI rz) (nI rv) rw_7 rk_8 ro_9 rt_10 rb_11 wf0 wf1_12 wf2_13 wf3_14 wf4_15 wf5_16 wf6_17 wf7_18) H := hP
                have hD : va_D A (wl_kf_X2_tryBits_0 cI cJ cK xr r1 r2 r3 r4 r5 w0 w1 w2 w3 w4 w5 w6 w7 (nI rz) (nI rv) rw_7 rk_8 ro_9 rt_10 rb_11 wf0 wf1_12 wf2_13 wf3_14 wf4_15 wf5_16 wf6_17 wf7_18) := hD
                obtain ⟨z_20, ez_20⟩ : ∃ y : Int32, y = nI w_3 + (-1) := ⟨_, rfl⟩
                try have tz_20 : z_20.toInt = ((w_3 : Nat) : Int) + (-1) := by rw [ez_20]; exact my_addI (nI_toInt (by omega)) (by decide +kernel) (by omega) (by omega)
                refine lv_iinc (v := z_20) (lv' := [(7, .int z_20), (8, .int (nI (ra + 1 + c_1 / 256 ^ w_3 % 256))), (6, .int (nI (2 * ((rv - 1) - 0)))), (4, .long (lN c_1)), (0, .ref xr), (1, .int 0), (2, .int (nI O)), (3, .int (nI ra))]) hx hb dX2_tryBits_111 hl (k := 1) rfl (by rw [ez_20]; rfl) (by decide) rfl (fun ls hl => ?_)
                refine lv_goto (tgt := 43) hx hb dX2_tryBits_114 (by decide) ?_
                exact ih43  z_20 rw_7 rk_8 ro_9 rt_10 rb_11 wf1_12 wf2_13 wf3_14 wf4_15 wf5_16 wf6_17 wf7_18 (by omega) (by first | assumption | omega | decide +kernel) (by first | assumption | omega | decide +kernel) (by first | exact tc_skip hfw2 (by omega) (by omega) (by omega) (os_f d73 (by omega)) | exact tc_bound hfw2 (by omega) (by omega) (by omega) (os_t d73 (by omega)) (by omega) | exact tc_done hfw1 (by omega) (by omega) (by omega) (os_t d73 (by omega)) (rm_G hO (by omega) hbt hru9 (by omega))) _ _ ls hP hD hS (lv_sub hl [0, 2, 3, 4, 5, 6, 7] rfl)
      have ec_21 : (7 : Int32).toInt = 7 := by decide +kernel
      exact loop43 ((((7 : Int32).toInt + 1).toNat) + 1) (7 : Int32) rw rk ro rt rb wf1 wf2 wf3 wf4 wf5 wf6 wf7 (Nat.lt_succ_self _) (by first | assumption | omega | decide +kernel) (by first | assumption | omega | decide +kernel) (tc_0 hfw hF) _ _ ls hP hD hS (lv_sub hl [0, 1, 2, 3, 4, 5, 6] rfl)
    ·
      exact absurd c11 (by decide +kernel)
