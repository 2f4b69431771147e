abbrev xrF (g : Nat → Int32) (i j : Nat) : Nat := xr g i j
set_option maxHeartbeats 4000000 in
set_option maxRecDepth 100000 in
theorem k_X8_nextPlaceOf (l : Launch) (D : va_G) (cI cJ cK : ClassId) (x0 : Nat) (xn : Nat) (xl : Nat) (xt : Nat) (xo : Nat) (xf : Nat) (xs : Nat) (xp : Nat) (xq : Nat) (xr : Nat) (xc : Nat) (z : Nat) (nf : Nat → Int32) (v9 : Int32) (a : Nat) (hz_z : z ≤ 64) (hR_nf : RB 0 255 nf) (ha9 : a ≤ z) : cpI l yX8_nextPlaceOf wsX8_nextPlaceOf ({ frames := 0, cells := 0, slots := 0, locals := 0 } : Room) D (tyIJ cI cJ cK) [.ref x0, .int v9, .int (nI a)] [(x0, .inr (8, [.ref xn, .int (nI z), .ref xl, .ref xt, .ref xo, .ref xf, .ref xs, .ref xp, .ref xq, .ref xr, .ref xc])), (xn, .inl (cI, 64, .inl nf))] (fun (r : Int32) => True) := by
  refine cpI.of (cc := cX8_nextPlaceOf) (maxL := 4) (ret := (some .int)) (by decide) rfl (Nat.le_of_ble_eq_true rfl) ?_
  intro p e s m below meth c ls hx hb hr hts hown hml hlocks hname hK hN hP hl
  have hl : lv_has ls 4 [(0, .ref x0), (1, .int v9), (2, .int (nI a))] := hl
  have hown : s.vm.findClass RX8 = some m.cls := hown
  have hi8 : ∀ w ∈ u_ws RX8 TX8 11, w ∈ wsX8_nextPlaceOf := by decide +kernel
  have fl13 := hts (.fieldLink RX8 13 "PlaneColumn" "size" "I") (by decide +kernel)
  have fl9 := hts (.fieldLink RX8 9 "PlaneColumn" "numbers" "[I") (by decide +kernel)
  refine lv_iload_n hx hb dX8_nextPlaceOf_0 rfl (lv_at hl 2 rfl) ?_
  refine lv_istore_n (lv' := [(3, .int (nI a)), (0, .ref x0), (1, .int v9), (2, .int (nI a))]) hx hb dX8_nextPlaceOf_1 rfl hl (by decide) rfl (fun ls hl => ?_)
  have loop2 : ∀ (n9 : Nat) (k : Nat), z - k < n9 → (k ≤ z) → ∀ (ls : Array Slot), lv_has ls 4 [(3, .int (nI k)), (0, .ref x0), (1, .int v9), (2, .int (nI a))] → W p l e ({ frames := 0, cells := 0, slots := 0, locals := 0 } : Room) s m [.ref x0, .int v9, .int (nI a)].toArray below meth c s.heap [] 0 0 (MQ below (vp_Si (fun (r : Int32) => True)) [.ref x0, .int v9, .int (nI a)].toArray s 0 0 (fun _ => False)) (F0 m 2 ls []) := by
    intro n9
    induction n9 with
    | zero =>
      intro k hn9
      exact absurd hn9 (Nat.not_lt_zero _)
    | succ n9 ih2 =>
      intro k hn9 hk_k ls hl
      refine lv_iload_n hx hb dX8_nextPlaceOf_2 rfl (lv_at hl 0 rfl) ?_
      refine lv_aload_n hx hb dX8_nextPlaceOf_3 rfl (lv_at hl 1 rfl) ?_
      refine va_get (ci := 8) (v := .int (nI z)) (C := RX8) (T := TX8) (N := 11) hx hb hts hi8 hown hK hP 0 rfl rfl 1 (by decide) fl13 (fun _ h9 => h9) rfl dX8_nextPlaceOf_4 ?_
      refine lv_icmp_ge (tgt := 28) hx hb dX8_nextPlaceOf_7 (by decide) (fun c7 => ?_) (fun c7 => ?_)
      ·
        have d7 : ((k : Nat) : Int) ≥ ((z : Nat) : Int) := my_ge c7 (nI_toInt (by omega)) (nI_toInt (by omega))
        refine lv_iconst (v := (-1)) hx hb dX8_nextPlaceOf_28 (by decide +kernel) ?_
        exact my_rpI hx hb hr hlocks (trivial) dX8_nextPlaceOf_29
      ·
        have d7 : ((k : Nat) : Int) < ((z : Nat) : Int) := my_nge c7 (nI_toInt (by omega)) (nI_toInt (by omega))
        refine lv_aload_n hx hb dX8_nextPlaceOf_10 rfl (lv_at hl 1 rfl) ?_
        refine va_get (ci := 8) (v := .ref xn) (C := RX8) (T := TX8) (N := 11) hx hb hts hi8 hown hK hP 0 rfl rfl 0 (by decide) fl9 (fun _ h9 => h9) rfl dX8_nextPlaceOf_11 ?_
        refine lv_iload_n hx hb dX8_nextPlaceOf_14 rfl (lv_at hl 0 rfl) ?_
        refine va_iald hx hb hK hP 1 0 rfl rfl (vp_in_nI (by omega) (by omega)) dX8_nextPlaceOf_15 ?_
        refine my_eqi (y := nf k) (congrArg nf (nI_clamp (by omega))) ?_
        have hb_1 := hR_nf k
        refine lv_iload_n hx hb dX8_nextPlaceOf_16 rfl (lv_at hl 2 rfl) ?_
        refine lv_icmp_ne (tgt := 22) hx hb dX8_nextPlaceOf_17 (by decide) (fun c17 => ?_) (fun c17 => ?_)
        ·
          have d17 : (nf k).toInt ≠ v9.toInt := my_ne c17 rfl rfl
          refine lv_iinc (v := nI (k + 1)) (lv' := [(3, .int (nI (k + 1))), (0, .ref x0), (1, .int v9), (2, .int (nI a))]) hx hb dX8_nextPlaceOf_22 hl (k := 0) rfl (my_incN k 1 (by decide +kernel)) (by decide) rfl (fun ls hl => ?_)
          refine lv_goto (tgt := 2) hx hb dX8_nextPlaceOf_25 (by decide) ?_
          exact ih2  (k + 1) (by omega) (by first | assumption | omega | decide +kernel) ls (lv_sub hl [0, 1, 2, 3] rfl)
        ·
          have d17 : (nf k).toInt = v9.toInt := my_eq c17 rfl rfl
          refine lv_iload_n hx hb dX8_nextPlaceOf_20 rfl (lv_at hl 0 rfl) ?_
          exact my_rpI hx hb hr hlocks (trivial) dX8_nextPlaceOf_21
  exact loop2 ((z - a) + 1) a (Nat.lt_succ_self _) (by first | assumption | omega | decide +kernel) ls (lv_sub hl [0, 1, 2, 3] rfl)
set_option maxHeartbeats 4000000 in
set_option maxRecDepth 100000 in
theorem kf_X8_timesIn (l : Launch) (D : va_G) (cI cJ cK : ClassId) (x0 : Nat) (xn : Nat) (xl : Nat) (xt : Nat) (xo : Nat) (xf : Nat) (xs : Nat) (xp : Nat) (xq : Nat) (xr : Nat) (xc : Nat) (z : Nat) (nf : Nat → Int32) (v : Nat) (a : Nat) (b : Nat) (hz_z : z ≤ 64) (hR_nf : RB 0 255 nf) (hv : v < 256) (ha9 : a ≤ b) (hb9 : b ≤ 64) : cpI l yX8_timesIn wsX8_timesIn ({ frames := 0, cells := 0, slots := 0, locals := 0 } : Room) D (tyIJ cI cJ cK) [.ref x0, .int (nI v), .int (nI a), .int (nI b)] [(x0, .inr (8, [.ref xn, .int (nI z), .ref xl, .ref xt, .ref xo, .ref xf, .ref xs, .ref xp, .ref xq, .ref xr, .ref xc])), (xn, .inl (cI, 64, .inl nf))] (fun (r : Int32) => ∃ (t' : Nat), r = nI t' ∧ t' = cn nf v a b ∧ t' ≤ 64) := by
  refine cpI.of (cc := cX8_timesIn) (maxL := 6) (ret := (some .int)) (by decide) rfl (Nat.le_of_ble_eq_true rfl) ?_
  intro p e s m below meth c ls hx hb hr hts hown hml hlocks hname hK hN hP hl
  have hl : lv_has ls 6 [(0, .ref x0), (1, .int (nI v)), (2, .int (nI a)), (3, .int (nI b))] := hl
  have hown : s.vm.findClass RX8 = some m.cls := hown
  have hi8 : ∀ w ∈ u_ws RX8 TX8 11, w ∈ wsX8_timesIn := by decide +kernel
  have fl9 := hts (.fieldLink RX8 9 "PlaneColumn" "numbers" "[I") (by decide +kernel)
  refine lv_iconst (v := 0) hx hb dX8_timesIn_0 (by decide +kernel) ?_
  refine lv_istore (lv' := [(4, .int 0), (0, .ref x0), (1, .int (nI v)), (2, .int (nI a)), (3, .int (nI b))]) hx hb dX8_timesIn_1 hl (by decide) rfl (fun ls hl => ?_)
  refine lv_iload_n hx hb dX8_timesIn_3 rfl (lv_at hl 3 rfl) ?_
  refine lv_istore (lv' := [(5, .int (nI a)), (4, .int 0), (0, .ref x0), (1, .int (nI v)), (2, .int (nI a)), (3, .int (nI b))]) hx hb dX8_timesIn_4 hl (by decide) rfl (fun ls hl => ?_)
  have loop6 : ∀ (n9 : Nat) (k : Nat) (t : Nat), b - k < n9 → (k ≤ b) → (a ≤ k) → (t = cn nf v a k) → ∀ (ls : Array Slot), lv_has ls 6 [(5, .int (nI k)), (4, .int (nI t)), (0, .ref x0), (1, .int (nI v)), (2, .int (nI a)), (3, .int (nI b))] → W p l e ({ frames := 0, cells := 0, slots := 0, locals := 0 } : Room) s m [.ref x0, .int (nI v), .int (nI a), .int (nI b)].toArray below meth c s.heap [] 0 0 (MQ below (vp_Si (fun (r : Int32) => ∃ (t' : Nat), r = nI t' ∧ t' = cn nf v a b ∧ t' ≤ 64)) [.ref x0, .int (nI v), .int (nI a), .int (nI b)].toArray s 0 0 (fun _ => False)) (F0 m 6 ls []) := by
    intro n9
    induction n9 with
    | zero =>
      intro k t hn9
      exact absurd hn9 (Nat.not_lt_zero _)
    | succ n9 ih6 =>
      intro k t hn9 hk_k hak ht ls hl
      refine lv_iload hx hb dX8_timesIn_6 (lv_at hl 0 rfl) ?_
      refine lv_iload_n hx hb dX8_timesIn_8 rfl (lv_at hl 5 rfl) ?_
      refine lv_icmp_ge (tgt := 32) hx hb dX8_timesIn_9 (by decide) (fun c9 => ?_) (fun c9 => ?_)
      ·
        have d9 : ((k : Nat) : Int) ≥ ((b : Nat) : Int) := my_ge c9 (nI_toInt (by omega)) (nI_toInt (by omega))
        have hcl := cn_le (f := nf) (v := v) (a := a) k
        refine lv_iload hx hb dX8_timesIn_32 (lv_at hl 1 rfl) ?_
        exact my_rpI hx hb hr hlocks (⟨t, rfl, (by rw [ht, show k = b from (by omega)]), (by first | assumption | omega | trivial | decide +kernel)⟩) dX8_timesIn_34
      ·
        have d9 : ((k : Nat) : Int) < ((b : Nat) : Int) := my_nge c9 (nI_toInt (by omega)) (nI_toInt (by omega))
        refine lv_aload_n hx hb dX8_timesIn_12 rfl (lv_at hl 2 rfl) ?_
        refine va_get (ci := 8) (v := .ref xn) (C := RX8) (T := TX8) (N := 11) hx hb hts hi8 hown hK hP 0 rfl rfl 0 (by decide) fl9 (fun _ h9 => h9) rfl dX8_timesIn_13 ?_
        refine lv_iload hx hb dX8_timesIn_16 (lv_at hl 0 rfl) ?_
        refine va_iald hx hb hK hP 1 0 rfl rfl (vp_in_nI (by omega) (by omega)) dX8_timesIn_18 ?_
        refine my_eqi (y := nf k) (congrArg nf (nI_clamp (by omega))) ?_
        have hb_1 := hR_nf k
        refine lv_iload_n hx hb dX8_timesIn_19 rfl (lv_at hl 3 rfl) ?_
        refine lv_icmp_ne (tgt := 26) hx hb dX8_timesIn_20 (by decide) (fun c20 => ?_) (fun c20 => ?_)
        ·
          have d20 : (nf k).toInt ≠ ((v : Nat) : Int) := my_ne c20 rfl (nI_toInt (by omega))
          refine lv_iinc (v := nI (k + 1)) (lv' := [(5, .int (nI (k + 1))), (4, .int (nI t)), (0, .ref x0), (1, .int (nI v)), (2, .int (nI a)), (3, .int (nI b))]) hx hb dX8_timesIn_26 hl (k := 0) rfl (my_incN k 1 (by decide +kernel)) (by decide) rfl (fun ls hl => ?_)
          refine lv_goto (tgt := 6) hx hb dX8_timesIn_29 (by decide) ?_
          exact ih6  (k + 1) t (by omega) (by first | assumption | omega | decide +kernel) (by first | assumption | omega | decide +kernel) (by first | exact cn_go1 ht (by omega) (by omega) (by assumption) | exact cn_go0 ht (by omega) (by assumption)) ls (lv_sub hl [0, 1, 2, 3, 4, 5] rfl)
        ·
          have d20 : (nf k).toInt = ((v : Nat) : Int) := my_eq c20 rfl (nI_toInt (by omega))
          refine lv_iinc (v := nI (t + 1)) (lv' := [(4, .int (nI (t + 1))), (5, .int (nI k)), (0, .ref x0), (1, .int (nI v)), (2, .int (nI a)), (3, .int (nI b))]) hx hb dX8_timesIn_23 hl (k := 1) rfl (my_incN t 1 (by decide +kernel)) (by decide) rfl (fun ls hl => ?_)
          refine lv_iinc (v := nI (k + 1)) (lv' := [(5, .int (nI (k + 1))), (4, .int (nI (t + 1))), (0, .ref x0), (1, .int (nI v)), (2, .int (nI a)), (3, .int (nI b))]) hx hb dX8_timesIn_26 hl (k := 1) rfl (my_incN k 1 (by decide +kernel)) (by decide) rfl (fun ls hl => ?_)
          refine lv_goto (tgt := 6) hx hb dX8_timesIn_29 (by decide) ?_
          exact ih6  (k + 1) (t + 1) (by omega) (by first | assumption | omega | decide +kernel) (by first | assumption | omega | decide +kernel) (by first | exact cn_go1 ht (by omega) (by omega) (by assumption) | exact cn_go0 ht (by omega) (by assumption)) ls (lv_sub hl [0, 1, 2, 3, 4, 5] rfl)
  exact loop6 ((b - a) + 1) a 0 (Nat.lt_succ_self _) (by first | assumption | omega | decide +kernel) (by first | assumption | omega | decide +kernel) ((cn_start (Nat.le_refl a)).symm) ls (lv_sub hl [0, 1, 2, 3, 4, 5] rfl)
set_option maxHeartbeats 4000000 in
set_option maxRecDepth 100000 in
theorem kf_X8_lengthWith (l : Launch) (D : va_G) (cI cJ cK : ClassId) (x0 : Nat) (xn : Nat) (xl : Nat) (xt : Nat) (xo : Nat) (xf : Nat) (xs : Nat) (xp : Nat) (xq : Nat) (xr : Nat) (xc : Nat) (z : Nat) (nf : Nat → Int32) (v : Nat) (m0 : Nat) (a : Nat) (hz_z : z ≤ 64) (hR_nf : RB 0 255 nf) (hv : v < 256) (hm1 : 1 ≤ m0) (hm64 : m0 ≤ 64) (ha9 : a < z) : cpI l yX8_lengthWith wsX8_lengthWith ({ frames := 0, cells := 0, slots := 0, locals := 0 } : Room) D (tyIJ cI cJ cK) [.ref x0, .int (nI v), .int (nI m0), .int (nI a)] [(x0, .inr (8, [.ref xn, .int (nI z), .ref xl, .ref xt, .ref xo, .ref xf, .ref xs, .ref xp, .ref xq, .ref xr, .ref xc])), (xn, .inl (cI, 64, .inl nf))] (fun (r : Int32) => (r = (-1) ∧ (∀ q, ¬ lnQ nf v m0 a z q) ∧ True) ∨ (∃ (q' : Nat), r = nI q' ∧ lnQ nf v m0 a z q' ∧ 1 ≤ q' ∧ q' + a ≤ z)) := by
  refine cpI.of (cc := cX8_lengthWith) (maxL := 6) (ret := (some .int)) (by decide) rfl (Nat.le_of_ble_eq_true rfl) ?_
  intro p e s m below meth c ls hx hb hr hts hown hml hlocks hname hK hN hP hl
  have hl : lv_has ls 6 [(0, .ref x0), (1, .int (nI v)), (2, .int (nI m0)), (3, .int (nI a))] := hl
  have hown : s.vm.findClass RX8 = some m.cls := hown
  have hi8 : ∀ w ∈ u_ws RX8 TX8 11, w ∈ wsX8_lengthWith := by decide +kernel
  have fl13 := hts (.fieldLink RX8 13 "PlaneColumn" "size" "I") (by decide +kernel)
  have fl9 := hts (.fieldLink RX8 9 "PlaneColumn" "numbers" "[I") (by decide +kernel)
  refine lv_aload_n hx hb dX8_lengthWith_0 rfl (lv_at hl 0 rfl) ?_
  refine va_get (ci := 8) (v := .ref xn) (C := RX8) (T := TX8) (N := 11) hx hb hts hi8 hown hK hP 0 rfl rfl 0 (by decide) fl9 (fun _ h9 => h9) rfl dX8_lengthWith_1 ?_
  refine lv_iload_n hx hb dX8_lengthWith_4 rfl (lv_at hl 3 rfl) ?_
  refine va_iald hx hb hK hP 1 0 rfl rfl (vp_in_nI (by omega) (by omega)) dX8_lengthWith_5 ?_
  refine my_eqi (y := nf a) (congrArg nf (nI_clamp (by omega))) ?_
  have hb_1 := hR_nf a
  refine lv_iload_n hx hb dX8_lengthWith_6 rfl (lv_at hl 1 rfl) ?_
  refine lv_icmp_eq (tgt := 12) hx hb dX8_lengthWith_7 (by decide) (fun c7 => ?_) (fun c7 => ?_)
  ·
    have d7 : (nf a).toInt = ((v : Nat) : Int) := my_eq c7 rfl (nI_toInt (by omega))
    refine lv_iconst (v := 0) hx hb dX8_lengthWith_12 (by decide +kernel) ?_
    refine lv_istore (lv' := [(4, .int 0), (0, .ref x0), (1, .int (nI v)), (2, .int (nI m0)), (3, .int (nI a))]) hx hb dX8_lengthWith_13 hl (by decide) rfl (fun ls hl => ?_)
    refine lv_iload_n hx hb dX8_lengthWith_15 rfl (lv_at hl 4 rfl) ?_
    refine lv_istore (lv' := [(5, .int (nI a)), (4, .int 0), (0, .ref x0), (1, .int (nI v)), (2, .int (nI m0)), (3, .int (nI a))]) hx hb dX8_lengthWith_16 hl (by decide) rfl (fun ls hl => ?_)
    have loop18 : ∀ (n9 : Nat) (k : Nat) (t : Nat), 64 - k < n9 → (t ≤ 64) → (k ≤ 64) → (a ≤ k) → (k ≤ z) → (t + a ≤ k) → (t < m0) → (t = cn nf v a k) → ∀ (ls : Array Slot), lv_has ls 6 [(5, .int (nI k)), (4, .int (nI t)), (0, .ref x0), (1, .int (nI v)), (2, .int (nI m0)), (3, .int (nI a))] → W p l e ({ frames := 0, cells := 0, slots := 0, locals := 0 } : Room) s m [.ref x0, .int (nI v), .int (nI m0), .int (nI a)].toArray below meth c s.heap [] 0 0 (MQ below (vp_Si (fun (r : Int32) => (r = (-1) ∧ (∀ q, ¬ lnQ nf v m0 a z q) ∧ True) ∨ (∃ (q' : Nat), r = nI q' ∧ lnQ nf v m0 a z q' ∧ 1 ≤ q' ∧ q' + a ≤ z))) [.ref x0, .int (nI v), .int (nI m0), .int (nI a)].toArray s 0 0 (fun _ => False)) (F0 m 18 ls []) := by
      intro n9
      induction n9 with
      | zero =>
        intro k t hn9
        exact absurd hn9 (Nat.not_lt_zero _)
      | succ n9 ih18 =>
        intro k t hn9 hk_t hk_k hlk hkz htk htm9 ht ls hl
        refine lv_iload hx hb dX8_lengthWith_18 (lv_at hl 0 rfl) ?_
        refine lv_aload_n hx hb dX8_lengthWith_20 rfl (lv_at hl 2 rfl) ?_
        refine va_get (ci := 8) (v := .int (nI z)) (C := RX8) (T := TX8) (N := 11) hx hb hts hi8 hown hK hP 0 rfl rfl 1 (by decide) fl13 (fun _ h9 => h9) rfl dX8_lengthWith_21 ?_
        refine lv_icmp_ge (tgt := 60) hx hb dX8_lengthWith_24 (by decide) (fun c24 => ?_) (fun c24 => ?_)
        ·
          have d24 : ((k : Nat) : Int) ≥ ((z : Nat) : Int) := my_ge c24 (nI_toInt (by omega)) (nI_toInt (by omega))
          refine lv_iconst (v := (-1)) hx hb dX8_lengthWith_60 (by decide +kernel) ?_
          exact my_rpI hx hb hr hlocks (Or.inl ⟨rfl, (by first | exact ln_no (k := k) (by omega) (by omega) | exact ln_no0 (fun h9 => by have h8 := congrArg Int32.toInt h9; rw [nI_toInt (by omega)] at h8; omega)), (by first | assumption | omega | trivial | decide +kernel)⟩) dX8_lengthWith_61
        ·
          have d24 : ((k : Nat) : Int) < ((z : Nat) : Int) := my_nge c24 (nI_toInt (by omega)) (nI_toInt (by omega))
          refine lv_aload_n hx hb dX8_lengthWith_27 rfl (lv_at hl 2 rfl) ?_
          refine va_get (ci := 8) (v := .ref xn) (C := RX8) (T := TX8) (N := 11) hx hb hts hi8 hown hK hP 0 rfl rfl 0 (by decide) fl9 (fun _ h9 => h9) rfl dX8_lengthWith_28 ?_
          refine lv_iload hx hb dX8_lengthWith_31 (lv_at hl 0 rfl) ?_
          refine va_iald hx hb hK hP 1 0 rfl rfl (vp_in_nI (by omega) (by omega)) dX8_lengthWith_33 ?_
          refine my_eqi (y := nf k) (congrArg nf (nI_clamp (by omega))) ?_
          have hb_2 := hR_nf k
          refine lv_iload_n hx hb dX8_lengthWith_34 rfl (lv_at hl 3 rfl) ?_
          refine lv_icmp_ne (tgt := 41) hx hb dX8_lengthWith_35 (by decide) (fun c35 => ?_) (fun c35 => ?_)
          ·
            have d35 : (nf k).toInt ≠ ((v : Nat) : Int) := my_ne c35 rfl (nI_toInt (by omega))
            refine lv_iload hx hb dX8_lengthWith_41 (lv_at hl 1 rfl) ?_
            refine lv_iload_n hx hb dX8_lengthWith_43 rfl (lv_at hl 4 rfl) ?_
            refine lv_icmp_ne (tgt := 54) hx hb dX8_lengthWith_44 (by decide) (fun c44 => ?_) (fun c44 => ?_)
            ·
              have d44 : ((t : Nat) : Int) ≠ ((m0 : Nat) : Int) := my_ne c44 (nI_toInt (by omega)) (nI_toInt (by omega))
              refine lv_iinc (v := nI (k + 1)) (lv' := [(5, .int (nI (k + 1))), (4, .int (nI t)), (0, .ref x0), (1, .int (nI v)), (2, .int (nI m0)), (3, .int (nI a))]) hx hb dX8_lengthWith_54 hl (k := 0) rfl (my_incN k 1 (by decide +kernel)) (by decide) rfl (fun ls hl => ?_)
              refine lv_goto (tgt := 18) hx hb dX8_lengthWith_57 (by decide) ?_
              exact ih18  (k + 1) t (by omega) (by first | assumption | omega | decide +kernel) (by first | assumption | omega | decide +kernel) (by first | assumption | omega | decide +kernel) (by first | assumption | omega | decide +kernel) (by first | assumption | omega | decide +kernel) (by first | assumption | omega | decide +kernel) (by first | exact cn_go1 ht (by omega) (by omega) (by assumption) | exact cn_go0 ht (by omega) (by assumption)) ls (lv_sub hl [0, 1, 2, 3, 4, 5] rfl)
            ·
              have d44 : ((t : Nat) : Int) = ((m0 : Nat) : Int) := my_eq c44 (nI_toInt (by omega)) (nI_toInt (by omega))
              refine lv_iload hx hb dX8_lengthWith_47 (lv_at hl 0 rfl) ?_
              refine lv_iconst (v := 1) hx hb dX8_lengthWith_49 (by decide +kernel) ?_
              refine lv_iadd hx hb dX8_lengthWith_50 ?_
              refine my_eqi (y := nI (k + 1)) (my_addN k 1) ?_
              refine lv_iload_n hx hb dX8_lengthWith_51 rfl (lv_at hl 5 rfl) ?_
              refine lv_isub hx hb dX8_lengthWith_52 ?_
              refine my_eqi (y := nI ((k + 1) - a)) (my_subN (a := k + 1) (b := a) (by omega)) ?_
              exact my_rpI hx hb hr hlocks (Or.inr (⟨((k + 1) - a), rfl, (by first | (exfalso; omega) | exact ln_mk (k := k) (my_eqI d7 (nI_toInt (by omega))) (by omega) (by omega) (by omega) (by rw [← cn_go1 ht (by omega) (by omega) (by assumption)]; omega) (my_eqI d35 (nI_toInt (by omega)))), (by first | assumption | omega | trivial | decide +kernel), (by first | assumption | omega | trivial | decide +kernel)⟩)) dX8_lengthWith_53
          ·
            have d35 : (nf k).toInt = ((v : Nat) : Int) := my_eq c35 rfl (nI_toInt (by omega))
            refine lv_iinc (v := nI (t + 1)) (lv' := [(4, .int (nI (t + 1))), (5, .int (nI k)), (0, .ref x0), (1, .int (nI v)), (2, .int (nI m0)), (3, .int (nI a))]) hx hb dX8_lengthWith_38 hl (k := 1) rfl (my_incN t 1 (by decide +kernel)) (by decide) rfl (fun ls hl => ?_)
            refine lv_iload hx hb dX8_lengthWith_41 (lv_at hl 0 rfl) ?_
            refine lv_iload_n hx hb dX8_lengthWith_43 rfl (lv_at hl 4 rfl) ?_
            refine lv_icmp_ne (tgt := 54) hx hb dX8_lengthWith_44 (by decide) (fun c44 => ?_) (fun c44 => ?_)
            ·
              have d44 : ((t + 1 : Nat) : Int) ≠ ((m0 : Nat) : Int) := my_ne c44 (nI_toInt (by omega)) (nI_toInt (by omega))
              refine lv_iinc (v := nI (k + 1)) (lv' := [(5, .int (nI (k + 1))), (4, .int (nI (t + 1))), (0, .ref x0), (1, .int (nI v)), (2, .int (nI m0)), (3, .int (nI a))]) hx hb dX8_lengthWith_54 hl (k := 1) rfl (my_incN k 1 (by decide +kernel)) (by decide) rfl (fun ls hl => ?_)
              refine lv_goto (tgt := 18) hx hb dX8_lengthWith_57 (by decide) ?_
              exact ih18  (k + 1) (t + 1) (by omega) (by first | assumption | omega | decide +kernel) (by first | assumption | omega | decide +kernel) (by first | assumption | omega | decide +kernel) (by first | assumption | omega | decide +kernel) (by first | assumption | omega | decide +kernel) (by first | assumption | omega | decide +kernel) (by first | exact cn_go1 ht (by omega) (by omega) (by assumption) | exact cn_go0 ht (by omega) (by assumption)) ls (lv_sub hl [0, 1, 2, 3, 4, 5] rfl)
            ·
              have d44 : ((t + 1 : Nat) : Int) = ((m0 : Nat) : Int) := my_eq c44 (nI_toInt (by omega)) (nI_toInt (by omega))
              refine lv_iload hx hb dX8_lengthWith_47 (lv_at hl 1 rfl) ?_
              refine lv_iconst (v := 1) hx hb dX8_lengthWith_49 (by decide +kernel) ?_
              refine lv_iadd hx hb dX8_lengthWith_50 ?_
              refine my_eqi (y := nI (k + 1)) (my_addN k 1) ?_
              refine lv_iload_n hx hb dX8_lengthWith_51 rfl (lv_at hl 5 rfl) ?_
              refine lv_isub hx hb dX8_lengthWith_52 ?_
              refine my_eqi (y := nI ((k + 1) - a)) (my_subN (a := k + 1) (b := a) (by omega)) ?_
              exact my_rpI hx hb hr hlocks (Or.inr (⟨((k + 1) - a), rfl, (by first | (exfalso; omega) | exact ln_mk (k := k) (my_eqI d7 (nI_toInt (by omega))) (by omega) (by omega) (by omega) (by rw [← cn_go1 ht (by omega) (by omega) (by assumption)]; omega) (my_eqI d35 (nI_toInt (by omega)))), (by first | assumption | omega | trivial | decide +kernel), (by first | assumption | omega | trivial | decide +kernel)⟩)) dX8_lengthWith_53
    exact loop18 ((64 - a) + 1) a 0 (Nat.lt_succ_self _) (by first | assumption | omega | decide +kernel) (by first | assumption | omega | decide +kernel) (by first | assumption | omega | decide +kernel) (by first | assumption | omega | decide +kernel) (by first | assumption | omega | decide +kernel) (by first | assumption | omega | decide +kernel) ((cn_start (Nat.le_refl a)).symm) ls (lv_sub hl [0, 1, 2, 3, 4, 5] rfl)
  ·
    have d7 : (nf a).toInt ≠ ((v : Nat) : Int) := my_ne c7 rfl (nI_toInt (by omega))
    refine lv_iconst (v := (-1)) hx hb dX8_lengthWith_10 (by decide +kernel) ?_
    exact my_rpI hx hb hr hlocks (Or.inl ⟨rfl, (by first | exact ln_no (k := k) (by omega) (by omega) | exact ln_no0 (fun h9 => by have h8 := congrArg Int32.toInt h9; rw [nI_toInt (by omega)] at h8; omega)), (by first | assumption | omega | trivial | decide +kernel)⟩) dX8_lengthWith_11
set_option maxHeartbeats 4000000 in
set_option maxRecDepth 100000 in
theorem kf_X8_apart (l : Launch) (D : va_G) (cI cJ cK : ClassId) (x0 : Nat) (xn : Nat) (xl : Nat) (xt : Nat) (xo : Nat) (xf : Nat) (xs : Nat) (xp : Nat) (xq : Nat) (xr : Nat) (xc : Nat) (f1 : Nat) (f2 : Nat) (z : Nat) (fz : Nat) (fs : Nat → Int32) (j : Nat) (hz_z : z ≤ 64) (hz_fz : fz ≤ 64) (hj1 : j + 1 < fz) (hrg : ∀ q, q < fz → 0 ≤ (fs q).toInt ∧ (fs q).toInt ≤ 255) : cpI l yX8_apart wsX8_apart ({ frames := 1, cells := 0, slots := 0, locals := 60 } : Room) D (tyIJ cI cJ cK) [.ref x0, .int (nI j)] [(x0, .inr (8, [.ref xn, .int (nI z), .ref xl, .ref xt, .ref xo, .ref xf, .ref xs, .ref xp, .ref xq, .ref xr, .ref xc])), (xf, .inr (6, [.ref f1, .ref f2, .int (nI fz)])), (f2, .inl (cI, 64, .inl fs))] (fun (r : Int32) => ∃ (q' : Nat), r = nI q' ∧ q' = xrF fs j (j + 1) ∧ q' < 256) := by
  refine cpI.of (cc := cX8_apart) (maxL := 2) (ret := (some .int)) (by decide) rfl (Nat.le_of_ble_eq_true rfl) ?_
  intro p e s m below meth c ls hx hb hr hts hown hml hlocks hname hK hN hP hl
  have hl : lv_has ls 2 [(0, .ref x0), (1, .int (nI j))] := hl
  have hown : s.vm.findClass RX8 = some m.cls := hown
  have hi8 : ∀ w ∈ u_ws RX8 TX8 11, w ∈ wsX8_apart := by decide +kernel
  have fl41 := hts (.fieldLink RX8 41 "PlaneColumn" "first" "LPlaneColumn$Tally;") (by decide +kernel)
  refine lv_aload_n hx hb dX8_apart_0 rfl (lv_at hl 0 rfl) ?_
  refine va_get (ci := 8) (v := .ref xf) (C := RX8) (T := TX8) (N := 11) hx hb hts hi8 hown hK hP 0 rfl rfl 5 (by decide) fl41 (fun _ h9 => h9) rfl dX8_apart_1 ?_
  refine lv_iload_n hx hb dX8_apart_4 rfl (lv_at hl 1 rfl) ?_
  refine my_gpI (my_pV (As := [.int (nI j)]) (rest := []) (ci := 6) ⟨hx, hb, hml, hown, hts⟩ (cwV 1 hts gX8_apart_X6_sortedAt rfl rfl rfl (by decide +kernel) ⟨Nat.le_of_ble_eq_true rfl, Nat.le_of_ble_eq_true rfl⟩) hN hK hP [1, 2] rfl 1 rfl rfl rfl rfl hl.1 rfl (Nat.le_of_ble_eq_true rfl) dX8_apart_5 ⟨Nat.le_of_ble_eq_true rfl, Nat.le_of_ble_eq_true rfl⟩  (kf_X6_sortedAt l D cI cJ cK xf f1 f2 fz fs j (by first | assumption | omega | decide +kernel) (by first | assumption | omega | decide +kernel))) (fun r hp => ?_)
  rcases hp with ⟨rfl, ha_1⟩ | ⟨rfl, ha_2⟩
  ·
    have h1 := hrg j (by omega)
    obtain ⟨w_3, ew_3, hw_3⟩ : ∃ w : Nat, (fs j) = nI w ∧ (w : Int) = (fs j : Int32).toInt := my_natE (by omega)
    refine my_eqi (y := nI w_3) ew_3 ?_
    refine lv_aload_n hx hb dX8_apart_8 rfl (lv_at hl 0 rfl) ?_
    refine va_get (ci := 8) (v := .ref xf) (C := RX8) (T := TX8) (N := 11) hx hb hts hi8 hown hK hP 0 rfl rfl 5 (by decide) fl41 (fun _ h9 => h9) rfl dX8_apart_9 ?_
    refine lv_iload_n hx hb dX8_apart_12 rfl (lv_at hl 1 rfl) ?_
    refine lv_iconst (v := 1) hx hb dX8_apart_13 (by decide +kernel) ?_
    refine lv_iadd hx hb dX8_apart_14 ?_
    refine my_eqi (y := nI (j + 1)) (my_addN j 1) ?_
    refine my_gpI (my_pV (As := [.int (nI (j + 1))]) (rest := [.int (nI w_3)]) (ci := 6) ⟨hx, hb, hml, hown, hts⟩ (cwV 1 hts gX8_apart_X6_sortedAt rfl rfl rfl (by decide +kernel) ⟨Nat.le_of_ble_eq_true rfl, Nat.le_of_ble_eq_true rfl⟩) hN hK hP [1, 2] rfl 1 rfl rfl rfl rfl hl.1 rfl (Nat.le_of_ble_eq_true rfl) dX8_apart_15 ⟨Nat.le_of_ble_eq_true rfl, Nat.le_of_ble_eq_true rfl⟩  (kf_X6_sortedAt l D cI cJ cK xf f1 f2 fz fs (j + 1) (by first | assumption | omega | decide +kernel) (by first | assumption | omega | decide +kernel))) (fun r hp => ?_)
    rcases hp with ⟨rfl, ha_4⟩ | ⟨rfl, ha_5⟩
    ·
      have h2 := hrg (j + 1) (by omega)
      obtain ⟨w_6, ew_6, hw_6⟩ : ∃ w : Nat, (fs (j + 1)) = nI w ∧ (w : Int) = (fs (j + 1) : Int32).toInt := my_natE (by omega)
      refine my_eqi (y := nI w_6) ew_6 ?_
      refine lv_ixor hx hb dX8_apart_18 ?_
      refine my_eqi (y := nI (w_3 ^^^ w_6)) (fb_xorI _ _) ?_
      try have hxl_7 : w_3 ^^^ w_6 < 256 := Nat.xor_lt_two_pow (n := 8) (by omega) (by omega)
      exact my_rpI hx hb hr hlocks (⟨(w_3 ^^^ w_6), rfl, (by show _ = (fs j).toInt.toNat ^^^ (fs (j + 1)).toInt.toNat; congr 1 <;> omega), (by first | assumption | omega | trivial | decide +kernel)⟩) dX8_apart_19
    ·
      exfalso; omega
  ·
    exfalso; omega
set_option maxHeartbeats 4000000 in
set_option maxRecDepth 100000 in
theorem kf_X8_step (l : Launch) (D : va_G) (cI cJ cK : ClassId) (x0 : Nat) (xn : Nat) (xl : Nat) (xt : Nat) (xo : Nat) (xf : Nat) (xs : Nat) (xp : Nat) (xq : Nat) (xr : Nat) (xc : Nat) (f1 : Nat) (f2 : Nat) (z : Nat) (fz : Nat) (fs : Nat → Int32) (j : Nat) (hz_z : z ≤ 64) (hz_fz : fz ≤ 64) (hj1 : j + 1 < fz) (hrg : ∀ q, q < fz → 0 ≤ (fs q).toInt ∧ (fs q).toInt ≤ 255) : cpI l yX8_step wsX8_step ({ frames := 1, cells := 0, slots := 0, locals := 60 } : Room) D (tyIJ cI cJ cK) [.ref x0, .int (nI j)] [(x0, .inr (8, [.ref xn, .int (nI z), .ref xl, .ref xt, .ref xo, .ref xf, .ref xs, .ref xp, .ref xq, .ref xr, .ref xc])), (xf, .inr (6, [.ref f1, .ref f2, .int (nI fz)])), (f2, .inl (cI, 64, .inl fs))] (fun (r : Int32) => r.toInt = (fs (j + 1)).toInt - (fs j).toInt ∧ True) := by
  refine cpI.of (cc := cX8_step) (maxL := 2) (ret := (some .int)) (by decide) rfl (Nat.le_of_ble_eq_true rfl) ?_
  intro p e s m below meth c ls hx hb hr hts hown hml hlocks hname hK hN hP hl
  have hl : lv_has ls 2 [(0, .ref x0), (1, .int (nI j))] := hl
  have hown : s.vm.findClass RX8 = some m.cls := hown
  have hi8 : ∀ w ∈ u_ws RX8 TX8 11, w ∈ wsX8_step := by decide +kernel
  have fl41 := hts (.fieldLink RX8 41 "PlaneColumn" "first" "LPlaneColumn$Tally;") (by decide +kernel)
  refine lv_aload_n hx hb dX8_step_0 rfl (lv_at hl 0 rfl) ?_
  refine va_get (ci := 8) (v := .ref xf) (C := RX8) (T := TX8) (N := 11) hx hb hts hi8 hown hK hP 0 rfl rfl 5 (by decide) fl41 (fun _ h9 => h9) rfl dX8_step_1 ?_
  refine lv_iload_n hx hb dX8_step_4 rfl (lv_at hl 1 rfl) ?_
  refine lv_iconst (v := 1) hx hb dX8_step_5 (by decide +kernel) ?_
  refine lv_iadd hx hb dX8_step_6 ?_
  refine my_eqi (y := nI (j + 1)) (my_addN j 1) ?_
  refine my_gpI (my_pV (As := [.int (nI (j + 1))]) (rest := []) (ci := 6) ⟨hx, hb, hml, hown, hts⟩ (cwV 1 hts gX8_step_X6_sortedAt rfl rfl rfl (by decide +kernel) ⟨Nat.le_of_ble_eq_true rfl, Nat.le_of_ble_eq_true rfl⟩) hN hK hP [1, 2] rfl 1 rfl rfl rfl rfl hl.1 rfl (Nat.le_of_ble_eq_true rfl) dX8_step_7 ⟨Nat.le_of_ble_eq_true rfl, Nat.le_of_ble_eq_true rfl⟩  (kf_X6_sortedAt l D cI cJ cK xf f1 f2 fz fs (j + 1) (by first | assumption | omega | decide +kernel) (by first | assumption | omega | decide +kernel))) (fun r hp => ?_)
  rcases hp with ⟨rfl, ha_1⟩ | ⟨rfl, ha_2⟩
  ·
    refine lv_aload_n hx hb dX8_step_10 rfl (lv_at hl 0 rfl) ?_
    refine va_get (ci := 8) (v := .ref xf) (C := RX8) (T := TX8) (N := 11) hx hb hts hi8 hown hK hP 0 rfl rfl 5 (by decide) fl41 (fun _ h9 => h9) rfl dX8_step_11 ?_
    refine lv_iload_n hx hb dX8_step_14 rfl (lv_at hl 1 rfl) ?_
    refine my_gpI (my_pV (As := [.int (nI j)]) (rest := [.int (fs (j + 1))]) (ci := 6) ⟨hx, hb, hml, hown, hts⟩ (cwV 1 hts gX8_step_X6_sortedAt rfl rfl rfl (by decide +kernel) ⟨Nat.le_of_ble_eq_true rfl, Nat.le_of_ble_eq_true rfl⟩) hN hK hP [1, 2] rfl 1 rfl rfl rfl rfl hl.1 rfl (Nat.le_of_ble_eq_true rfl) dX8_step_15 ⟨Nat.le_of_ble_eq_true rfl, Nat.le_of_ble_eq_true rfl⟩  (kf_X6_sortedAt l D cI cJ cK xf f1 f2 fz fs j (by first | assumption | omega | decide +kernel) (by first | assumption | omega | decide +kernel))) (fun r hp => ?_)
    rcases hp with ⟨rfl, ha_3⟩ | ⟨rfl, ha_4⟩
    ·
      have h1 := hrg j (by omega)
      have h2 := hrg (j + 1) (by omega)
      refine lv_isub hx hb dX8_step_18 ?_
      refine lv_topi (fun z_5 ez_5 => ?_)
      try have tz_5 : z_5.toInt = (fs (j + 1)).toInt - (fs j).toInt := by rw [ez_5]; exact my_subI rfl rfl (by omega) (by omega)
      exact my_rpI hx hb hr hlocks (⟨(by first | assumption | omega | trivial | decide +kernel), (by first | assumption | omega | trivial | decide +kernel)⟩) dX8_step_19
    ·
      exfalso; omega
  ·
    exfalso; omega
set_option maxHeartbeats 4000000 in
set_option maxRecDepth 100000 in
theorem kf_X8_reachFrom (l : Launch) (D : va_G) (cI cJ cK : ClassId) (x0 : Nat) (xn : Nat) (xl : Nat) (xt : Nat) (xo : Nat) (xf : Nat) (xs : Nat) (xp : Nat) (xq : Nat) (xr : Nat) (xc : Nat) (f1 : Nat) (f2 : Nat) (z : Nat) (fz : Nat) (fs : Nat → Int32) (a : Nat) (w0 : Nat) (hz_z : z ≤ 64) (hz_fz : fz ≤ 64) (ha9 : a < fz) (hw9 : w0 ≤ 255) (hrg : ∀ q, q < fz → 0 ≤ (fs q).toInt ∧ (fs q).toInt ≤ 255) : cpI l yX8_reachFrom wsX8_reachFrom ({ frames := 1, cells := 0, slots := 0, locals := 60 } : Room) D (tyIJ cI cJ cK) [.ref x0, .int (nI a), .int (nI w0)] [(x0, .inr (8, [.ref xn, .int (nI z), .ref xl, .ref xt, .ref xo, .ref xf, .ref xs, .ref xp, .ref xq, .ref xr, .ref xc])), (xf, .inr (6, [.ref f1, .ref f2, .int (nI fz)])), (f2, .inl (cI, 64, .inl fs))] (fun (r : Int32) => ∃ (t' : Nat), r = nI t' ∧ t' = fb_ct (rcP fs a w0) fz ∧ t' ≤ 64) := by
  refine cpI.of (cc := cX8_reachFrom) (maxL := 5) (ret := (some .int)) (by decide) rfl (Nat.le_of_ble_eq_true rfl) ?_
  intro p e s m below meth c ls hx hb hr hts hown hml hlocks hname hK hN hP hl
  have hl : lv_has ls 5 [(0, .ref x0), (1, .int (nI a)), (2, .int (nI w0))] := hl
  have hown : s.vm.findClass RX8 = some m.cls := hown
  have hi6 : ∀ w ∈ u_ws RX6 TX6 3, w ∈ wsX8_reachFrom := by decide +kernel
  have hi8 : ∀ w ∈ u_ws RX8 TX8 11, w ∈ wsX8_reachFrom := by decide +kernel
  have fl41 := hts (.fieldLink RX8 41 "PlaneColumn" "first" "LPlaneColumn$Tally;") (by decide +kernel)
  refine lv_iconst (v := 0) hx hb dX8_reachFrom_0 (by decide +kernel) ?_
  refine lv_istore_n (lv' := [(3, .int 0), (0, .ref x0), (1, .int (nI a)), (2, .int (nI w0))]) hx hb dX8_reachFrom_1 rfl hl (by decide) rfl (fun ls hl => ?_)
  refine lv_iload_n hx hb dX8_reachFrom_2 rfl (lv_at hl 2 rfl) ?_
  refine lv_istore (lv' := [(4, .int (nI a)), (3, .int 0), (0, .ref x0), (1, .int (nI a)), (2, .int (nI w0))]) hx hb dX8_reachFrom_3 hl (by decide) rfl (fun ls hl => ?_)
  have loop5 : ∀ (n9 : Nat) (k : Nat) (t : Nat), 64 - k < n9 → (t ≤ 64) → (k ≤ 64) → (a ≤ k) → (k ≤ fz) → (t + a ≤ k) → (t = fb_ct (rcP fs a w0) k) → ∀ (ls : Array Slot), lv_has ls 5 [(4, .int (nI k)), (3, .int (nI t)), (0, .ref x0), (1, .int (nI a)), (2, .int (nI w0))] → W p l e ({ frames := 1, cells := 0, slots := 0, locals := 60 } : Room) s m [.ref x0, .int (nI a), .int (nI w0)].toArray below meth c s.heap [] 0 0 (MQ below (vp_Si (fun (r : Int32) => ∃ (t' : Nat), r = nI t' ∧ t' = fb_ct (rcP fs a w0) fz ∧ t' ≤ 64)) [.ref x0, .int (nI a), .int (nI w0)].toArray s 0 0 (fun _ => False)) (F0 m 5 ls []) := by
    intro n9
    induction n9 with
    | zero =>
      intro k t hn9
      exact absurd hn9 (Nat.not_lt_zero _)
    | succ n9 ih5 =>
      intro k t hn9 hk_t hk_k hak hkz htk ht ls hl
      refine lv_iload hx hb dX8_reachFrom_5 (lv_at hl 0 rfl) ?_
      refine lv_aload_n hx hb dX8_reachFrom_7 rfl (lv_at hl 2 rfl) ?_
      refine va_get (ci := 8) (v := .ref xf) (C := RX8) (T := TX8) (N := 11) hx hb hts hi8 hown hK hP 0 rfl rfl 5 (by decide) fl41 (fun _ h9 => h9) rfl dX8_reachFrom_8 ?_
      refine va_getN (ci := 6) (v := .int (nI fz)) (C := RX6) (T := TX6) (N := 3) hx hb hts hi6 hown hK hP 1 rfl rfl 2 (by decide) (nw_f_RX8_263 hN) (fun _ h9 => h9) rfl dX8_reachFrom_11 ?_
      refine lv_icmp_ge (tgt := 48) hx hb dX8_reachFrom_14 (by decide) (fun c14 => ?_) (fun c14 => ?_)
      ·
        have d14 : ((k : Nat) : Int) ≥ ((fz : Nat) : Int) := my_ge c14 (nI_toInt (by omega)) (nI_toInt (by omega))
        refine lv_iload_n hx hb dX8_reachFrom_48 rfl (lv_at hl 1 rfl) ?_
        exact my_rpI hx hb hr hlocks (⟨t, rfl, (by rw [ht, show k = fz from (by omega)]), (by first | assumption | omega | trivial | decide +kernel)⟩) dX8_reachFrom_49
      ·
        have d14 : ((k : Nat) : Int) < ((fz : Nat) : Int) := my_nge c14 (nI_toInt (by omega)) (nI_toInt (by omega))
        refine lv_aload_n hx hb dX8_reachFrom_17 rfl (lv_at hl 2 rfl) ?_
        refine va_get (ci := 8) (v := .ref xf) (C := RX8) (T := TX8) (N := 11) hx hb hts hi8 hown hK hP 0 rfl rfl 5 (by decide) fl41 (fun _ h9 => h9) rfl dX8_reachFrom_18 ?_
        refine lv_iload hx hb dX8_reachFrom_21 (lv_at hl 0 rfl) ?_
        refine my_gpI (my_pV (As := [.int (nI k)]) (rest := []) (ci := 6) ⟨hx, hb, hml, hown, hts⟩ (cwV 1 hts gX8_reachFrom_X6_sortedAt rfl rfl rfl (by decide +kernel) ⟨Nat.le_of_ble_eq_true rfl, Nat.le_of_ble_eq_true rfl⟩) hN hK hP [1, 2] rfl 1 rfl rfl rfl rfl hl.1 rfl (Nat.le_of_ble_eq_true rfl) dX8_reachFrom_23 ⟨Nat.le_of_ble_eq_true rfl, Nat.le_of_ble_eq_true rfl⟩  (kf_X6_sortedAt l D cI cJ cK xf f1 f2 fz fs k (by first | assumption | omega | decide +kernel) (by first | assumption | omega | decide +kernel))) (fun r hp => ?_)
        rcases hp with ⟨rfl, ha_1⟩ | ⟨rfl, ha_2⟩
        ·
          refine lv_aload_n hx hb dX8_reachFrom_26 rfl (lv_at hl 2 rfl) ?_
          refine va_get (ci := 8) (v := .ref xf) (C := RX8) (T := TX8) (N := 11) hx hb hts hi8 hown hK hP 0 rfl rfl 5 (by decide) fl41 (fun _ h9 => h9) rfl dX8_reachFrom_27 ?_
          refine lv_iload_n hx hb dX8_reachFrom_30 rfl (lv_at hl 3 rfl) ?_
          refine my_gpI (my_pV (As := [.int (nI a)]) (rest := [.int (fs k)]) (ci := 6) ⟨hx, hb, hml, hown, hts⟩ (cwV 1 hts gX8_reachFrom_X6_sortedAt rfl rfl rfl (by decide +kernel) ⟨Nat.le_of_ble_eq_true rfl, Nat.le_of_ble_eq_true rfl⟩) hN hK hP [1, 2] rfl 1 rfl rfl rfl rfl hl.1 rfl (Nat.le_of_ble_eq_true rfl) dX8_reachFrom_31 ⟨Nat.le_of_ble_eq_true rfl, Nat.le_of_ble_eq_true rfl⟩  (kf_X6_sortedAt l D cI cJ cK xf f1 f2 fz fs a (by first | assumption | omega | decide +kernel) (by first | assumption | omega | decide +kernel))) (fun r hp => ?_)
          rcases hp with ⟨rfl, ha_3⟩ | ⟨rfl, ha_4⟩
          ·
            have h1 := hrg k (by omega)
            have h2 := hrg a (by omega)
            refine lv_isub hx hb dX8_reachFrom_34 ?_
            refine lv_topi (fun z_5 ez_5 => ?_)
            try have tz_5 : z_5.toInt = (fs k).toInt - (fs a).toInt := by rw [ez_5]; exact my_subI rfl rfl (by omega) (by omega)
            refine lv_iload_n hx hb dX8_reachFrom_35 rfl (lv_at hl 4 rfl) ?_
            refine lv_icmp_gt (tgt := 42) hx hb dX8_reachFrom_36 (by decide) (fun c36 => ?_) (fun c36 => ?_)
            ·
              have d36 : z_5.toInt > ((w0 : Nat) : Int) := my_gt c36 rfl (nI_toInt (by omega))
              refine lv_iinc (v := nI (k + 1)) (lv' := [(4, .int (nI (k + 1))), (3, .int (nI t)), (0, .ref x0), (1, .int (nI a)), (2, .int (nI w0))]) hx hb dX8_reachFrom_42 hl (k := 0) rfl (my_incN k 1 (by decide +kernel)) (by decide) rfl (fun ls hl => ?_)
              refine lv_goto (tgt := 5) hx hb dX8_reachFrom_45 (by decide) ?_
              exact ih5  (k + 1) t (by omega) (by first | assumption | omega | decide +kernel) (by first | assumption | omega | decide +kernel) (by first | assumption | omega | decide +kernel) (by first | assumption | omega | decide +kernel) (by first | assumption | omega | decide +kernel) (by first | exact ct_yes ht (decide_eq_true (by omega)) | exact ct_no ht (decide_eq_false (by omega))) ls (lv_sub hl [0, 1, 2, 3, 4] rfl)
            ·
              have d36 : z_5.toInt ≤ ((w0 : Nat) : Int) := my_ngt c36 rfl (nI_toInt (by omega))
              refine lv_iinc (v := nI (t + 1)) (lv' := [(3, .int (nI (t + 1))), (4, .int (nI k)), (0, .ref x0), (1, .int (nI a)), (2, .int (nI w0))]) hx hb dX8_reachFrom_39 hl (k := 1) rfl (my_incN t 1 (by decide +kernel)) (by decide) rfl (fun ls hl => ?_)
              refine lv_iinc (v := nI (k + 1)) (lv' := [(4, .int (nI (k + 1))), (3, .int (nI (t + 1))), (0, .ref x0), (1, .int (nI a)), (2, .int (nI w0))]) hx hb dX8_reachFrom_42 hl (k := 1) rfl (my_incN k 1 (by decide +kernel)) (by decide) rfl (fun ls hl => ?_)
              refine lv_goto (tgt := 5) hx hb dX8_reachFrom_45 (by decide) ?_
              exact ih5  (k + 1) (t + 1) (by omega) (by first | assumption | omega | decide +kernel) (by first | assumption | omega | decide +kernel) (by first | assumption | omega | decide +kernel) (by first | assumption | omega | decide +kernel) (by first | assumption | omega | decide +kernel) (by first | exact ct_yes ht (decide_eq_true (by omega)) | exact ct_no ht (decide_eq_false (by omega))) ls (lv_sub hl [0, 1, 2, 3, 4] rfl)
          ·
            exfalso; omega
        ·
          exfalso; omega
  exact loop5 ((64 - a) + 1) a 0 (Nat.lt_succ_self _) (by first | assumption | omega | decide +kernel) (by first | assumption | omega | decide +kernel) (by first | assumption | omega | decide +kernel) (by first | assumption | omega | decide +kernel) (by first | assumption | omega | decide +kernel) (rc_0.symm) ls (lv_sub hl [0, 1, 2, 3, 4] rfl)
set_option maxHeartbeats 4000000 in
set_option maxRecDepth 100000 in
theorem kf_X8_unlikeNumbers (l : Launch) (D : va_G) (cI cJ cK : ClassId) (x0 : Nat) (xn : Nat) (xl : Nat) (xt : Nat) (xo : Nat) (xf : Nat) (xs : Nat) (xp : Nat) (xq : Nat) (xr : Nat) (xc : Nat) (z : Nat) (nf : Nat → Int32) (hz_z : z ≤ 64) (hR_nf : RB 0 255 nf) : cpI l yX8_unlikeNumbers wsX8_unlikeNumbers ({ frames := 1, cells := 0, slots := 0, locals := 60 } : Room) D (tyIJ cI cJ cK) [.ref x0] [(x0, .inr (8, [.ref xn, .int (nI z), .ref xl, .ref xt, .ref xo, .ref xf, .ref xs, .ref xp, .ref xq, .ref xr, .ref xc])), (xn, .inl (cI, 64, .inl nf))] (fun (r : Int32) => ∃ (t' : Nat), r = nI t' ∧ t' = fb_ct (unP nf) z ∧ t' ≤ 64) := by
  refine cpI.of (cc := cX8_unlikeNumbers) (maxL := 3) (ret := (some .int)) (by decide) rfl (Nat.le_of_ble_eq_true rfl) ?_
  intro p e s m below meth c ls hx hb hr hts hown hml hlocks hname hK hN hP hl
  have hl : lv_has ls 3 [(0, .ref x0)] := hl
  have hown : s.vm.findClass RX8 = some m.cls := hown
  have hi8 : ∀ w ∈ u_ws RX8 TX8 11, w ∈ wsX8_unlikeNumbers := by decide +kernel
  have fl13 := hts (.fieldLink RX8 13 "PlaneColumn" "size" "I") (by decide +kernel)
  have fl9 := hts (.fieldLink RX8 9 "PlaneColumn" "numbers" "[I") (by decide +kernel)
  refine lv_iconst (v := 0) hx hb dX8_unlikeNumbers_0 (by decide +kernel) ?_
  refine lv_istore_n (lv' := [(1, .int 0), (0, .ref x0)]) hx hb dX8_unlikeNumbers_1 rfl hl (by decide) rfl (fun ls hl => ?_)
  refine lv_iconst (v := 0) hx hb dX8_unlikeNumbers_2 (by decide +kernel) ?_
  refine lv_istore_n (lv' := [(2, .int 0), (1, .int 0), (0, .ref x0)]) hx hb dX8_unlikeNumbers_3 rfl hl (by decide) rfl (fun ls hl => ?_)
  have loop4 : ∀ (n9 : Nat) (k : Nat) (t : Nat), z - k < n9 → (t ≤ 64) → (k ≤ z) → (t ≤ k) → (t = fb_ct (unP nf) k) → ∀ (ls : Array Slot), lv_has ls 3 [(2, .int (nI k)), (1, .int (nI t)), (0, .ref x0)] → W p l e ({ frames := 1, cells := 0, slots := 0, locals := 60 } : Room) s m [.ref x0].toArray below meth c s.heap [] 0 0 (MQ below (vp_Si (fun (r : Int32) => ∃ (t' : Nat), r = nI t' ∧ t' = fb_ct (unP nf) z ∧ t' ≤ 64)) [.ref x0].toArray s 0 0 (fun _ => False)) (F0 m 4 ls []) := by
    intro n9
    induction n9 with
    | zero =>
      intro k t hn9
      exact absurd hn9 (Nat.not_lt_zero _)
    | succ n9 ih4 =>
      intro k t hn9 hk_t hk_k htk ht ls hl
      refine lv_iload_n hx hb dX8_unlikeNumbers_4 rfl (lv_at hl 0 rfl) ?_
      refine lv_aload_n hx hb dX8_unlikeNumbers_5 rfl (lv_at hl 2 rfl) ?_
      refine va_get (ci := 8) (v := .int (nI z)) (C := RX8) (T := TX8) (N := 11) hx hb hts hi8 hown hK hP 0 rfl rfl 1 (by decide) fl13 (fun _ h9 => h9) rfl dX8_unlikeNumbers_6 ?_
      refine lv_icmp_ge (tgt := 36) hx hb dX8_unlikeNumbers_9 (by decide) (fun c9 => ?_) (fun c9 => ?_)
      ·
        have d9 : ((k : Nat) : Int) ≥ ((z : Nat) : Int) := my_ge c9 (nI_toInt (by omega)) (nI_toInt (by omega))
        refine lv_iload_n hx hb dX8_unlikeNumbers_36 rfl (lv_at hl 1 rfl) ?_
        exact my_rpI hx hb hr hlocks (⟨t, rfl, (by rw [ht, show k = z from (by omega)]), (by first | assumption | omega | trivial | decide +kernel)⟩) dX8_unlikeNumbers_37
      ·
        have d9 : ((k : Nat) : Int) < ((z : Nat) : Int) := my_nge c9 (nI_toInt (by omega)) (nI_toInt (by omega))
        refine lv_aload_n hx hb dX8_unlikeNumbers_12 rfl (lv_at hl 2 rfl) ?_
        refine lv_aload_n hx hb dX8_unlikeNumbers_13 rfl (lv_at hl 2 rfl) ?_
        refine va_get (ci := 8) (v := .ref xn) (C := RX8) (T := TX8) (N := 11) hx hb hts hi8 hown hK hP 0 rfl rfl 0 (by decide) fl9 (fun _ h9 => h9) rfl dX8_unlikeNumbers_14 ?_
        refine lv_iload_n hx hb dX8_unlikeNumbers_17 rfl (lv_at hl 0 rfl) ?_
        have hb9 := hR_nf k
        refine va_iald hx hb hK hP 1 0 rfl rfl (vp_in_nI (by omega) (by omega)) dX8_unlikeNumbers_18 ?_
        refine my_eqi (y := nI ((nf k).toInt.toNat)) ((congrArg nf (nI_clamp (by omega))).trans (nI_tn (hR_nf k).1)) ?_
        refine lv_iconst (v := 0) hx hb dX8_unlikeNumbers_19 (by decide +kernel) ?_
        refine lv_iload_n hx hb dX8_unlikeNumbers_20 rfl (lv_at hl 0 rfl) ?_
        refine my_gpI (my_pV (As := [.int (nI ((nf k).toInt.toNat)), .int 0, .int (nI k)]) (rest := []) (ci := 8) ⟨hx, hb, hml, hown, hts⟩ (cwV 3 hts gX8_unlikeNumbers_X8_timesIn rfl rfl rfl (by decide +kernel) ⟨Nat.le_of_ble_eq_true rfl, Nat.le_of_ble_eq_true rfl⟩) hN hK hP [0, 1] rfl 0 rfl rfl rfl rfl hl.1 rfl (Nat.le_of_ble_eq_true rfl) dX8_unlikeNumbers_21 ⟨Nat.le_of_ble_eq_true rfl, Nat.le_of_ble_eq_true rfl⟩  (kf_X8_timesIn l D cI cJ cK x0 xn xl xt xo xf xs xp xq xr xc z nf ((nf k).toInt.toNat) 0 k (by first | assumption | omega | decide +kernel) hR_nf (by first | assumption | omega | decide +kernel) (by first | assumption | omega | decide +kernel) (by first | assumption | omega | decide +kernel))) (fun r hp => ?_)
        obtain ⟨t_1, rfl, htm, hq_2⟩ := hp
        refine lv_if_ne (tgt := 30) hx hb dX8_unlikeNumbers_24 (by decide) (fun c24 => ?_) (fun c24 => ?_)
        ·
          have d24 : ((t_1 : Nat) : Int) ≠ (0 : Int) := my_ne c24 (nI_toInt (by omega)) (by decide +kernel)
          refine lv_iinc (v := nI (k + 1)) (lv' := [(2, .int (nI (k + 1))), (1, .int (nI t)), (0, .ref x0)]) hx hb dX8_unlikeNumbers_30 hl (k := 0) rfl (my_incN k 1 (by decide +kernel)) (by decide) rfl (fun ls hl => ?_)
          refine lv_goto (tgt := 4) hx hb dX8_unlikeNumbers_33 (by decide) ?_
          exact ih4  (k + 1) t (by omega) (by first | assumption | omega | decide +kernel) (by first | assumption | omega | decide +kernel) (by first | assumption | omega | decide +kernel) (by first | exact ct_yes ht (decide_eq_true (by omega)) | exact ct_no ht (decide_eq_false (by omega))) ls (lv_sub hl [0, 1, 2] rfl)
        ·
          have d24 : ((t_1 : Nat) : Int) = (0 : Int) := my_eq c24 (nI_toInt (by omega)) (by decide +kernel)
          refine lv_iinc (v := nI (t + 1)) (lv' := [(1, .int (nI (t + 1))), (2, .int (nI k)), (0, .ref x0)]) hx hb dX8_unlikeNumbers_27 hl (k := 1) rfl (my_incN t 1 (by decide +kernel)) (by decide) rfl (fun ls hl => ?_)
          refine lv_iinc (v := nI (k + 1)) (lv' := [(2, .int (nI (k + 1))), (1, .int (nI (t + 1))), (0, .ref x0)]) hx hb dX8_unlikeNumbers_30 hl (k := 1) rfl (my_incN k 1 (by decide +kernel)) (by decide) rfl (fun ls hl => ?_)
          refine lv_goto (tgt := 4) hx hb dX8_unlikeNumbers_33 (by decide) ?_
          exact ih4  (k + 1) (t + 1) (by omega) (by first | assumption | omega | decide +kernel) (by first | assumption | omega | decide +kernel) (by first | assumption | omega | decide +kernel) (by first | exact ct_yes ht (decide_eq_true (by omega)) | exact ct_no ht (decide_eq_false (by omega))) ls (lv_sub hl [0, 1, 2] rfl)
  exact loop4 ((z - 0) + 1) 0 0 (Nat.lt_succ_self _) (by first | assumption | omega | decide +kernel) (by first | assumption | omega | decide +kernel) (by first | assumption | omega | decide +kernel) (rfl) ls (lv_sub hl [0, 1, 2] rfl)
set_option maxHeartbeats 4000000 in
set_option maxRecDepth 100000 in
theorem kf_X8_sumOfAll (l : Launch) (D : va_G) (cI cJ cK : ClassId) (x0 : Nat) (xn : Nat) (xl : Nat) (xt : Nat) (xo : Nat) (xf : Nat) (xs : Nat) (xp : Nat) (xq : Nat) (xr : Nat) (xc : Nat) (z : Nat) (nf : Nat → Int32) (hz_z : z ≤ 64) (hR_nf : RB 0 255 nf) : cpI l yX8_sumOfAll wsX8_sumOfAll ({ frames := 0, cells := 0, slots := 0, locals := 0 } : Room) D (tyIJ cI cJ cK) [.ref x0] [(x0, .inr (8, [.ref xn, .int (nI z), .ref xl, .ref xt, .ref xo, .ref xf, .ref xs, .ref xp, .ref xq, .ref xr, .ref xc])), (xn, .inl (cI, 64, .inl nf))] (fun (r : Int32) => ∃ (t' : Nat), r = nI t' ∧ t' = fb_sm (suF nf) z ∧ t' ≤ 16320) := by
  refine cpI.of (cc := cX8_sumOfAll) (maxL := 3) (ret := (some .int)) (by decide) rfl (Nat.le_of_ble_eq_true rfl) ?_
  intro p e s m below meth c ls hx hb hr hts hown hml hlocks hname hK hN hP hl
  have hl : lv_has ls 3 [(0, .ref x0)] := hl
  have hown : s.vm.findClass RX8 = some m.cls := hown
  have hi8 : ∀ w ∈ u_ws RX8 TX8 11, w ∈ wsX8_sumOfAll := by decide +kernel
  have fl13 := hts (.fieldLink RX8 13 "PlaneColumn" "size" "I") (by decide +kernel)
  have fl9 := hts (.fieldLink RX8 9 "PlaneColumn" "numbers" "[I") (by decide +kernel)
  refine lv_iconst (v := 0) hx hb dX8_sumOfAll_0 (by decide +kernel) ?_
  refine lv_istore_n (lv' := [(1, .int 0), (0, .ref x0)]) hx hb dX8_sumOfAll_1 rfl hl (by decide) rfl (fun ls hl => ?_)
  refine lv_iconst (v := 0) hx hb dX8_sumOfAll_2 (by decide +kernel) ?_
  refine lv_istore_n (lv' := [(2, .int 0), (1, .int 0), (0, .ref x0)]) hx hb dX8_sumOfAll_3 rfl hl (by decide) rfl (fun ls hl => ?_)
  have loop4 : ∀ (n9 : Nat) (k : Nat) (t : Nat), z - k < n9 → (t ≤ 16320) → (k ≤ z) → (t ≤ 255 * k) → (t = fb_sm (suF nf) k) → ∀ (ls : Array Slot), lv_has ls 3 [(2, .int (nI k)), (1, .int (nI t)), (0, .ref x0)] → W p l e ({ frames := 0, cells := 0, slots := 0, locals := 0 } : Room) s m [.ref x0].toArray below meth c s.heap [] 0 0 (MQ below (vp_Si (fun (r : Int32) => ∃ (t' : Nat), r = nI t' ∧ t' = fb_sm (suF nf) z ∧ t' ≤ 16320)) [.ref x0].toArray s 0 0 (fun _ => False)) (F0 m 4 ls []) := by
    intro n9
    induction n9 with
    | zero =>
      intro k t hn9
      exact absurd hn9 (Nat.not_lt_zero _)
    | succ n9 ih4 =>
      intro k t hn9 hk_t hk_k htk ht ls hl
      refine lv_iload_n hx hb dX8_sumOfAll_4 rfl (lv_at hl 0 rfl) ?_
      refine lv_aload_n hx hb dX8_sumOfAll_5 rfl (lv_at hl 2 rfl) ?_
      refine va_get (ci := 8) (v := .int (nI z)) (C := RX8) (T := TX8) (N := 11) hx hb hts hi8 hown hK hP 0 rfl rfl 1 (by decide) fl13 (fun _ h9 => h9) rfl dX8_sumOfAll_6 ?_
      refine lv_icmp_ge (tgt := 27) hx hb dX8_sumOfAll_9 (by decide) (fun c9 => ?_) (fun c9 => ?_)
      ·
        have d9 : ((k : Nat) : Int) ≥ ((z : Nat) : Int) := my_ge c9 (nI_toInt (by omega)) (nI_toInt (by omega))
        refine lv_iload_n hx hb dX8_sumOfAll_27 rfl (lv_at hl 1 rfl) ?_
        exact my_rpI hx hb hr hlocks (⟨t, rfl, (by rw [ht, show k = z from (by omega)]), (by first | assumption | omega | trivial | decide +kernel)⟩) dX8_sumOfAll_28
      ·
        have d9 : ((k : Nat) : Int) < ((z : Nat) : Int) := my_nge c9 (nI_toInt (by omega)) (nI_toInt (by omega))
        refine lv_iload_n hx hb dX8_sumOfAll_12 rfl (lv_at hl 1 rfl) ?_
        refine lv_aload_n hx hb dX8_sumOfAll_13 rfl (lv_at hl 2 rfl) ?_
        refine va_get (ci := 8) (v := .ref xn) (C := RX8) (T := TX8) (N := 11) hx hb hts hi8 hown hK hP 0 rfl rfl 0 (by decide) fl9 (fun _ h9 => h9) rfl dX8_sumOfAll_14 ?_
        refine lv_iload_n hx hb dX8_sumOfAll_17 rfl (lv_at hl 0 rfl) ?_
        have hb9 := hR_nf k
        refine va_iald hx hb hK hP 1 0 rfl rfl (vp_in_nI (by omega) (by omega)) dX8_sumOfAll_18 ?_
        refine my_eqi (y := nI ((nf k).toInt.toNat)) ((congrArg nf (nI_clamp (by omega))).trans (nI_tn (hR_nf k).1)) ?_
        refine lv_iadd hx hb dX8_sumOfAll_19 ?_
        refine my_eqi (y := nI (t + (nf k).toInt.toNat)) (nI_add _ _) ?_
        refine lv_istore_n (lv' := [(1, .int (nI (t + (nf k).toInt.toNat))), (2, .int (nI k)), (0, .ref x0)]) hx hb dX8_sumOfAll_20 rfl hl (by decide) rfl (fun ls hl => ?_)
        refine lv_iinc (v := nI (k + 1)) (lv' := [(2, .int (nI (k + 1))), (1, .int (nI (t + (nf k).toInt.toNat))), (0, .ref x0)]) hx hb dX8_sumOfAll_21 hl (k := 1) rfl (my_incN k 1 (by decide +kernel)) (by decide) rfl (fun ls hl => ?_)
        refine lv_goto (tgt := 4) hx hb dX8_sumOfAll_24 (by decide) ?_
        exact ih4  (k + 1) (t + (nf k).toInt.toNat) (by omega) (by first | assumption | omega | decide +kernel) (by first | assumption | omega | decide +kernel) (by first | assumption | omega | decide +kernel) (sm_go ht (by show _ = (nf k).toInt.toNat; omega)) ls (lv_sub hl [0, 1, 2] rfl)
  exact loop4 ((z - 0) + 1) 0 0 (Nat.lt_succ_self _) (by first | assumption | omega | decide +kernel) (by first | assumption | omega | decide +kernel) (by first | assumption | omega | decide +kernel) (rfl) ls (lv_sub hl [0, 1, 2] rfl)
set_option maxHeartbeats 4000000 in
set_option maxRecDepth 100000 in
theorem kf_X8_onesOfAll (l : Launch) (D : va_G) (cI cJ cK : ClassId) (x0 : Nat) (xn : Nat) (xl : Nat) (xt : Nat) (xo : Nat) (xf : Nat) (xs : Nat) (xp : Nat) (xq : Nat) (xr : Nat) (xc : Nat) (z : Nat) (nf : Nat → Int32) (hz_z : z ≤ 64) (hR_nf : RB 0 255 nf) : cpI l yX8_onesOfAll wsX8_onesOfAll ({ frames := 1, cells := 0, slots := 0, locals := 60 } : Room) D (tyIJ cI cJ cK) [.ref x0] [(x0, .inr (8, [.ref xn, .int (nI z), .ref xl, .ref xt, .ref xo, .ref xf, .ref xs, .ref xp, .ref xq, .ref xr, .ref xc])), (xn, .inl (cI, 64, .inl nf))] (fun (r : Int32) => ∃ (t' : Nat), r = nI t' ∧ t' = fb_sm (onF nf) z ∧ t' ≤ 16320) := by
  refine cpI.of (cc := cX8_onesOfAll) (maxL := 3) (ret := (some .int)) (by decide) rfl (Nat.le_of_ble_eq_true rfl) ?_
  intro p e s m below meth c ls hx hb hr hts hown hml hlocks hname hK hN hP hl
  have hl : lv_has ls 3 [(0, .ref x0)] := hl
  have hown : s.vm.findClass RX8 = some m.cls := hown
  have hi8 : ∀ w ∈ u_ws RX8 TX8 11, w ∈ wsX8_onesOfAll := by decide +kernel
  have fl13 := hts (.fieldLink RX8 13 "PlaneColumn" "size" "I") (by decide +kernel)
  have fl9 := hts (.fieldLink RX8 9 "PlaneColumn" "numbers" "[I") (by decide +kernel)
  refine lv_iconst (v := 0) hx hb dX8_onesOfAll_0 (by decide +kernel) ?_
  refine lv_istore_n (lv' := [(1, .int 0), (0, .ref x0)]) hx hb dX8_onesOfAll_1 rfl hl (by decide) rfl (fun ls hl => ?_)
  refine lv_iconst (v := 0) hx hb dX8_onesOfAll_2 (by decide +kernel) ?_
  refine lv_istore_n (lv' := [(2, .int 0), (1, .int 0), (0, .ref x0)]) hx hb dX8_onesOfAll_3 rfl hl (by decide) rfl (fun ls hl => ?_)
  have loop4 : ∀ (n9 : Nat) (k : Nat) (t : Nat), z - k < n9 → (t ≤ 16320) → (k ≤ z) → (t ≤ 8 * k) → (t = fb_sm (onF nf) k) → ∀ (ls : Array Slot), lv_has ls 3 [(2, .int (nI k)), (1, .int (nI t)), (0, .ref x0)] → W p l e ({ frames := 1, cells := 0, slots := 0, locals := 60 } : Room) s m [.ref x0].toArray below meth c s.heap [] 0 0 (MQ below (vp_Si (fun (r : Int32) => ∃ (t' : Nat), r = nI t' ∧ t' = fb_sm (onF nf) z ∧ t' ≤ 16320)) [.ref x0].toArray s 0 0 (fun _ => False)) (F0 m 4 ls []) := by
    intro n9
    induction n9 with
    | zero =>
      intro k t hn9
      exact absurd hn9 (Nat.not_lt_zero _)
    | succ n9 ih4 =>
      intro k t hn9 hk_t hk_k htk ht ls hl
      refine lv_iload_n hx hb dX8_onesOfAll_4 rfl (lv_at hl 0 rfl) ?_
      refine lv_aload_n hx hb dX8_onesOfAll_5 rfl (lv_at hl 2 rfl) ?_
      refine va_get (ci := 8) (v := .int (nI z)) (C := RX8) (T := TX8) (N := 11) hx hb hts hi8 hown hK hP 0 rfl rfl 1 (by decide) fl13 (fun _ h9 => h9) rfl dX8_onesOfAll_6 ?_
      refine lv_icmp_ge (tgt := 30) hx hb dX8_onesOfAll_9 (by decide) (fun c9 => ?_) (fun c9 => ?_)
      ·
        have d9 : ((k : Nat) : Int) ≥ ((z : Nat) : Int) := my_ge c9 (nI_toInt (by omega)) (nI_toInt (by omega))
        refine lv_iload_n hx hb dX8_onesOfAll_30 rfl (lv_at hl 1 rfl) ?_
        exact my_rpI hx hb hr hlocks (⟨t, rfl, (by rw [ht, show k = z from (by omega)]), (by first | assumption | omega | trivial | decide +kernel)⟩) dX8_onesOfAll_31
      ·
        have d9 : ((k : Nat) : Int) < ((z : Nat) : Int) := my_nge c9 (nI_toInt (by omega)) (nI_toInt (by omega))
        refine lv_iload_n hx hb dX8_onesOfAll_12 rfl (lv_at hl 1 rfl) ?_
        refine lv_aload_n hx hb dX8_onesOfAll_13 rfl (lv_at hl 2 rfl) ?_
        refine va_get (ci := 8) (v := .ref xn) (C := RX8) (T := TX8) (N := 11) hx hb hts hi8 hown hK hP 0 rfl rfl 0 (by decide) fl9 (fun _ h9 => h9) rfl dX8_onesOfAll_14 ?_
        refine lv_iload_n hx hb dX8_onesOfAll_17 rfl (lv_at hl 0 rfl) ?_
        have hb9 := hR_nf k
        refine va_iald hx hb hK hP 1 0 rfl rfl (vp_in_nI (by omega) (by omega)) dX8_onesOfAll_18 ?_
        refine my_eqi (y := nI ((nf k).toInt.toNat)) ((congrArg nf (nI_clamp (by omega))).trans (nI_tn (hR_nf k).1)) ?_
        refine my_gpI (my_pS (As := [.int (nI ((nf k).toInt.toNat))]) (rest := [.int (nI t)]) ⟨hx, hb, hml, hown, hts⟩ (va_cwS 1 hts gX8_onesOfAll_J6_bitCount_0f7a4 rfl rfl rfl (by decide +kernel) ⟨Nat.le_of_ble_eq_true rfl, Nat.le_of_ble_eq_true rfl⟩) hN hK hP [] rfl rfl hl.1 rfl (Nat.le_of_ble_eq_true rfl) dX8_onesOfAll_19 ⟨Nat.le_of_ble_eq_true rfl, Nat.le_of_ble_eq_true rfl⟩  (kb_J6_bitCount_0f7a4 l D cI cJ cK ((nf k).toInt.toNat) (by first | assumption | omega | decide +kernel))) (fun r hp => ?_)
        obtain ⟨k_1, rfl, ha_2⟩ := hp
        refine lv_iadd hx hb dX8_onesOfAll_22 ?_
        refine my_eqi (y := nI (t + k_1)) (nI_add _ _) ?_
        refine lv_istore_n (lv' := [(1, .int (nI (t + k_1))), (2, .int (nI k)), (0, .ref x0)]) hx hb dX8_onesOfAll_23 rfl hl (by decide) rfl (fun ls hl => ?_)
        refine lv_iinc (v := nI (k + 1)) (lv' := [(2, .int (nI (k + 1))), (1, .int (nI (t + k_1))), (0, .ref x0)]) hx hb dX8_onesOfAll_24 hl (k := 1) rfl (my_incN k 1 (by decide +kernel)) (by decide) rfl (fun ls hl => ?_)
        refine lv_goto (tgt := 4) hx hb dX8_onesOfAll_27 (by decide) ?_
        exact ih4  (k + 1) (t + k_1) (by omega) (by first | assumption | omega | decide +kernel) (by first | assumption | omega | decide +kernel) (by first | assumption | omega | decide +kernel) (sm_go ht (by show _ = 8 - za (nf k).toInt.toNat 8; omega)) ls (lv_sub hl [0, 1, 2] rfl)
  exact loop4 ((z - 0) + 1) 0 0 (Nat.lt_succ_self _) (by first | assumption | omega | decide +kernel) (by first | assumption | omega | decide +kernel) (by first | assumption | omega | decide +kernel) (rfl) ls (lv_sub hl [0, 1, 2] rfl)
abbrev wl_k_X8_kth (cI cJ cK : ClassId) (x0 : Nat) (xn : Nat) (xl : Nat) (xt : Nat) (xo : Nat) (xf : Nat) (xs : Nat) (xp : Nat) (xq : Nat) (xr : Nat) (xc : Nat) (f1 : Nat) (f2 : Nat) (o1 : Nat) (v0_ : Int32) (v1_ : Nat → Int32) (v2_ : Int32) (v3_ : Nat → Int32) (v4_ : Nat → Int32) (v5_ : Int32) (v6_ : Nat → Int64) : va_W := [(x0, .inr (8, [.ref xn, .int v0_, .ref xl, .ref xt, .ref xo, .ref xf, .ref xs, .ref xp, .ref xq, .ref xr, .ref xc])), (xn, .inl (cI, 64, .inl v1_)), (xf, .inr (6, [.ref f1, .ref f2, .int v2_])), (f1, .inl (cI, 512, .inl v3_)), (f2, .inl (cI, 64, .inl v4_)), (xo, .inr (7, [.ref o1, .int v5_])), (o1, .inl (cJ, 64, .inr (.inl v6_)))]
set_option maxHeartbeats 4000000 in
set_option maxRecDepth 100000 in
theorem k_X8_kth (l : Launch) (D : va_G) (cI cJ cK : ClassId) (x0 : Nat) (xn : Nat) (xl : Nat) (xt : Nat) (xo : Nat) (xf : Nat) (xs : Nat) (xp : Nat) (xq : Nat) (xr : Nat) (xc : Nat) (f1 : Nat) (f2 : Nat) (o1 : Nat) (z : Nat) (nf : Nat → Int32) (fz : Nat) (fn : Nat → Int32) (fs : Nat → Int32) (oz : Nat) (of : Nat → Int64) (l9 : Int32) (r9 : Int32) (k9 : Int32) (hz_z : z ≤ 64) (hR_nf : RB 0 255 nf) (hz_fz : fz ≤ 64) (hz_oz : oz ≤ 64) : ctI l yX8_kth wsX8_kth ({ frames := 4, cells := 0, slots := 0, locals := 240 } : Room) D (tyIJ cI cJ cK) [.ref x0, .int l9, .int r9, .int k9] (wl_k_X8_kth cI cJ cK x0 xn xl xt xo xf xs xp xq xr xc f1 f2 o1 (nI z) nf (nI fz) fn fs (nI oz) of) (fun (r : Int32) (u : va_W) => (u = (wl_k_X8_kth cI cJ cK x0 xn xl xt xo xf xs xp xq xr xc f1 f2 o1 (nI z) nf (nI fz) fn fs (nI oz) of) ∧ r = (-1) ∧ (l9.toInt < 0 ∨ r9.toInt < l9.toInt ∨ z < r9.toInt ∨ k9.toInt < 0)) ∨ (u = (wl_k_X8_kth cI cJ cK x0 xn xl xt xo xf xs xp xq xr xc f1 f2 o1 (nI z) nf (nI fz) fn fs (nI oz) of) ∧ r = (-2) ∧ 0 ≤ l9.toInt ∧ l9.toInt ≤ r9.toInt ∧ r9.toInt ≤ z ∧ r9.toInt - l9.toInt ≤ k9.toInt) ∨ (∃ (fz' : Nat) (fn' : Nat → Int32) (fs' : Nat → Int32) (oz' : Nat) (of' : Nat → Int64), u = (wl_k_X8_kth cI cJ cK x0 xn xl xt xo xf xs xp xq xr xc f1 f2 o1 (nI z) nf (nI fz') fn' fs' (nI oz') of') ∧ fz' ≤ 64 ∧ oz' ≤ 64 ∧ 0 ≤ l9.toInt ∧ l9.toInt ≤ r9.toInt ∧ r9.toInt ≤ z ∧ 0 ≤ k9.toInt ∧ k9.toInt < r9.toInt - l9.toInt ∧ kthP nf l9.toInt.toNat r9.toInt.toNat k9.toInt.toNat r ∧ oz' = 2)) := by
  refine ctI.of (cc := cX8_kth) (maxL := 5) (ret := (some .int)) (by decide) rfl (Nat.le_of_ble_eq_true rfl) ?_
  intro p e s m below meth c ls A hx hb hr hts hown hml hlocks hname hA hK hN hP hD hS hl
  have hl : lv_has ls 5 [(0, .ref x0), (1, .int l9), (2, .int r9), (3, .int k9)] := hl
  have hown : s.vm.findClass RX8 = some m.cls := hown
  have hi8 : ∀ w ∈ u_ws RX8 TX8 11, w ∈ wsX8_kth := by decide +kernel
  have fl41 := hts (.fieldLink RX8 41 "PlaneColumn" "first" "LPlaneColumn$Tally;") (by decide +kernel)
  have fl9 := hts (.fieldLink RX8 9 "PlaneColumn" "numbers" "[I") (by decide +kernel)
  refine lv_aload_n hx hb dX8_kth_0 rfl (lv_at hl 0 rfl) ?_
  refine lv_iload_n hx hb dX8_kth_1 rfl (lv_at hl 1 rfl) ?_
  refine lv_iload_n hx hb dX8_kth_2 rfl (lv_at hl 2 rfl) ?_
  refine my_gpI (my_pV (As := [.int l9, .int r9]) (rest := []) (ci := 8) ⟨hx, hb, hml, hown, hts⟩ (cwV 2 hts gX8_kth_X8_isSpan rfl rfl rfl (by decide +kernel) ⟨Nat.le_of_ble_eq_true rfl, Nat.le_of_ble_eq_true rfl⟩) hN hK hP [0] rfl 0 rfl rfl rfl rfl hl.1 rfl (Nat.le_of_ble_eq_true rfl) dX8_kth_3 ⟨Nat.le_of_ble_eq_true rfl, Nat.le_of_ble_eq_true rfl⟩  (k_X8_isSpan l D cI cJ cK x0 xn xl xt xo xf xs xp xq xr xc z l9 r9 (by first | assumption | omega | decide +kernel))) (fun r hp => ?_)
  rcases hp with ⟨a_1, b_2, rfl, rfl, rfl, ha_3, hb_4⟩ | ⟨rfl, ho_5⟩
  ·
    refine lv_if_eq (tgt := 13) hx hb dX8_kth_6 (by decide) (fun c6 => ?_) (fun c6 => ?_)
    ·
      exact absurd c6 (by decide +kernel)
    ·
      refine lv_iload_n hx hb dX8_kth_9 rfl (lv_at hl 3 rfl) ?_
      refine lv_if_ge (tgt := 15) hx hb dX8_kth_10 (by decide) (fun c10 => ?_) (fun c10 => ?_)
      ·
        have d10 : k9.toInt ≥ (0 : Int) := my_ge c10 rfl (by decide +kernel)
        obtain ⟨w_6, rfl, hw_6⟩ := my_natP (x := k9) (by omega)
        have hlw_6 : w_6 < 2147483648 := by have h9 := Int32.toInt_lt (nI w_6); omega
        refine lv_iload_n hx hb dX8_kth_15 rfl (lv_at hl 3 rfl) ?_
        refine lv_iload_n hx hb dX8_kth_16 rfl (lv_at hl 2 rfl) ?_
        refine lv_iload_n hx hb dX8_kth_17 rfl (lv_at hl 1 rfl) ?_
        refine lv_isub hx hb dX8_kth_18 ?_
        refine lv_topi (fun z_7 ez_7 => ?_)
        try have tz_7 : z_7.toInt = ((b_2 : Nat) : Int) - ((a_1 : Nat) : Int) := by rw [ez_7]; exact my_subI (nI_toInt (by omega)) (nI_toInt (by omega)) (by omega) (by omega)
        refine lv_icmp_lt (tgt := 25) hx hb dX8_kth_19 (by decide) (fun c19 => ?_) (fun c19 => ?_)
        ·
          have d19 : ((w_6 : Nat) : Int) < z_7.toInt := my_lt c19 (nI_toInt (by omega)) rfl
          refine lv_aload_n hx hb dX8_kth_25 rfl (lv_at hl 0 rfl) ?_
          refine va_get (ci := 8) (v := .ref xf) (C := RX8) (T := TX8) (N := 11) hx hb hts hi8 hown hK hP 0 rfl rfl 5 (by decide) fl41 (fun _ h9 => h9) rfl dX8_kth_26 ?_
          refine lv_aload_n hx hb dX8_kth_29 rfl (lv_at hl 0 rfl) ?_
          refine va_get (ci := 8) (v := .ref xn) (C := RX8) (T := TX8) (N := 11) hx hb hts hi8 hown hK hP 0 rfl rfl 0 (by decide) fl9 (fun _ h9 => h9) rfl dX8_kth_30 ?_
          refine lv_iload_n hx hb dX8_kth_33 rfl (lv_at hl 1 rfl) ?_
          refine lv_iload_n hx hb dX8_kth_34 rfl (lv_at hl 2 rfl) ?_
          refine my_goVS (wc := (wl_k_X6_take cI cJ cK xf f1 f2 xn (nI fz) fn fs nf)) hP hD hS hA [2, 3, 4, 1] rfl [none, some 3, some 0, some 1, some 2] (by decide +kernel) (my_cV (As := [.ref xn, .int (nI a_1), .int (nI b_2)]) (rest := []) (ci := 6) (wc := (wl_k_X6_take cI cJ cK xf f1 f2 xn (nI fz) fn fs nf)) ⟨hx, hb, hml, hown, hts⟩ (cwV 3 hts gX8_kth_X6_take rfl rfl rfl (by decide +kernel) ⟨Nat.le_of_ble_eq_true rfl, Nat.le_of_ble_eq_true rfl⟩) hN hK hP hD [2, 3, 4, 1] rfl (by decide) rfl 2 rfl rfl rfl rfl hl.1 rfl (Nat.le_of_ble_eq_true rfl) dX8_kth_35 ⟨Nat.le_of_ble_eq_true rfl, Nat.le_of_ble_eq_true rfl⟩  ((k_X6_take l D cI cJ cK xf f1 f2 xn fz fn fs nf a_1 b_2 (by first | assumption | omega | decide +kernel) hR_nf (by first | assumption | omega | decide +kernel) (by first | assumption | omega | decide +kernel)) _)) (fun u H locs hp hPD hS => ?_)
          obtain ⟨fz_8, fn_9, fs_10, rfl, hhz_fz_11, hnd, hn8, hfz, hsv⟩ := hp
          obtain ⟨hP, hD⟩ := hPD rfl
          have hP : va_P D vwCl (wl_k_X8_kth cI cJ cK x0 xn xl xt xo xf xs xp xq xr xc f1 f2 o1 (nI z) nf (nI fz_8) fn_9 fs_10 (nI oz) of) H := hP
          have hD : va_D A (wl_k_X8_kth cI cJ cK x0 xn xl xt xo xf xs xp xq xr xc f1 f2 o1 (nI z) nf (nI fz_8) fn_9 fs_10 (nI oz) of) := hD
          refine lv_aload_n hx hb dX8_kth_38 rfl (lv_at hl 0 rfl) ?_
          refine va_get (ci := 8) (v := .ref xf) (C := RX8) (T := TX8) (N := 11) hx hb hts hi8 hown hK hP 0 rfl rfl 5 (by decide) fl41 (fun _ h9 => h9) rfl dX8_kth_39 ?_
          refine lv_iload_n hx hb dX8_kth_42 rfl (lv_at hl 3 rfl) ?_
          refine my_gpI (my_pV (As := [.int (nI w_6)]) (rest := []) (ci := 6) ⟨hx, hb, hml, hown, hts⟩ (cwV 1 hts gX8_kth_X6_sortedAt rfl rfl rfl (by decide +kernel) ⟨Nat.le_of_ble_eq_true rfl, Nat.le_of_ble_eq_true rfl⟩) hN hK hP [2, 4] rfl 2 rfl rfl rfl rfl hl.1 rfl (Nat.le_of_ble_eq_true rfl) dX8_kth_43 ⟨Nat.le_of_ble_eq_true rfl, Nat.le_of_ble_eq_true rfl⟩  (kf_X6_sortedAt l D cI cJ cK xf f1 f2 fz_8 fs_10 w_6 (by first | assumption | omega | decide +kernel) (by first | assumption | omega | decide +kernel))) (fun r hp => ?_)
          rcases hp with ⟨rfl, ha_12⟩ | ⟨rfl, ha_13⟩
          ·
            refine lv_istore (lv' := [(4, .int (fs_10 w_6)), (0, .ref x0), (1, .int (nI a_1)), (2, .int (nI b_2)), (3, .int (nI w_6))]) hx hb dX8_kth_46 hl (by decide) rfl (fun ls hl => ?_)
            refine lv_aload_n hx hb dX8_kth_48 rfl (lv_at hl 1 rfl) ?_
            refine lv_aload_n hx hb dX8_kth_49 rfl (lv_at hl 1 rfl) ?_
            refine va_get (ci := 8) (v := .ref xf) (C := RX8) (T := TX8) (N := 11) hx hb hts hi8 hown hK hP 0 rfl rfl 5 (by decide) fl41 (fun _ h9 => h9) rfl dX8_kth_50 ?_
            refine lv_iload hx hb dX8_kth_53 (lv_at hl 0 rfl) ?_
            refine my_gpI (my_pV (As := [.int (fs_10 w_6)]) (rest := [.ref x0]) (ci := 6) ⟨hx, hb, hml, hown, hts⟩ (cwV 1 hts gX8_kth_X6_timesOf rfl rfl rfl (by decide +kernel) ⟨Nat.le_of_ble_eq_true rfl, Nat.le_of_ble_eq_true rfl⟩) hN hK hP [2, 3] rfl 2 rfl rfl rfl rfl hl.1 rfl (Nat.le_of_ble_eq_true rfl) dX8_kth_55 ⟨Nat.le_of_ble_eq_true rfl, Nat.le_of_ble_eq_true rfl⟩  (k_X6_timesOf l D cI cJ cK xf f1 f2 fz_8 fn_9 (fs_10 w_6) (by first | assumption | omega | decide +kernel))) (fun r hp => ?_)
            obtain _ := hp
            obtain ⟨r_14, rfl⟩ : ∃ z, z = r := ⟨_, rfl⟩
            refine lv_i2l (v := r_14.toInt64) hx hb dX8_kth_58 rfl ?_
            refine lv_aload_n hx hb dX8_kth_59 rfl (lv_at hl 1 rfl) ?_
            refine lv_iload hx hb dX8_kth_60 (lv_at hl 0 rfl) ?_
            refine lv_iload_n hx hb dX8_kth_62 rfl (lv_at hl 2 rfl) ?_
            refine my_gpI (my_pV (As := [.int (fs_10 w_6), .int (nI a_1)]) (rest := [.long r_14.toInt64, .ref x0]) (ci := 8) ⟨hx, hb, hml, hown, hts⟩ (cwV 2 hts gX8_kth_X8_nextPlaceOf rfl rfl rfl (by decide +kernel) ⟨Nat.le_of_ble_eq_true rfl, Nat.le_of_ble_eq_true rfl⟩) hN hK hP [0, 1] rfl 0 rfl rfl rfl rfl hl.1 rfl (Nat.le_of_ble_eq_true rfl) dX8_kth_63 ⟨Nat.le_of_ble_eq_true rfl, Nat.le_of_ble_eq_true rfl⟩  (k_X8_nextPlaceOf l D cI cJ cK x0 xn xl xt xo xf xs xp xq xr xc z nf (fs_10 w_6) a_1 (by first | assumption | omega | decide +kernel) hR_nf (by first | assumption | omega | decide +kernel))) (fun r hp => ?_)
            obtain _ := hp
            obtain ⟨r_15, rfl⟩ : ∃ z, z = r := ⟨_, rfl⟩
            refine lv_i2l (v := r_15.toInt64) hx hb dX8_kth_66 rfl ?_
            refine my_goVS (wc := (wl_k_X8_tell_ cI cJ cK x0 xn xl xt xo xf xs xp xq xr xc o1 (nI z) (nI oz) of)) hP hD hS hA [0, 5, 6] rfl [some 0, none, none, none, none, some 1, some 2] (by decide +kernel) (my_cV (As := [.long r_14.toInt64, .long r_15.toInt64]) (rest := []) (ci := 8) (wc := (wl_k_X8_tell_ cI cJ cK x0 xn xl xt xo xf xs xp xq xr xc o1 (nI z) (nI oz) of)) ⟨hx, hb, hml, hown, hts⟩ (cwV 2 hts gX8_kth_X8_tell_ rfl rfl rfl (by decide +kernel) ⟨Nat.le_of_ble_eq_true rfl, Nat.le_of_ble_eq_true rfl⟩) hN hK hP hD [0, 5, 6] rfl (by decide) rfl 0 rfl rfl rfl rfl hl.1 rfl (Nat.le_of_ble_eq_true rfl) dX8_kth_67 ⟨Nat.le_of_ble_eq_true rfl, Nat.le_of_ble_eq_true rfl⟩  ((k_X8_tell_ l D cI cJ cK x0 xn xl xt xo xf xs xp xq xr xc o1 z oz of r_14.toInt64 r_15.toInt64 (by first | assumption | omega | decide +kernel) (by first | assumption | omega | decide +kernel)) _)) (fun u H locs hp hPD hS => ?_)
            obtain ⟨of_16, rfl, hv0, hv1⟩ := hp
            obtain ⟨hP, hD⟩ := hPD rfl
            have hP : va_P D vwCl (wl_k_X8_kth cI cJ cK x0 xn xl xt xo xf xs xp xq xr xc f1 f2 o1 (nI z) nf (nI fz_8) fn_9 fs_10 2 of_16) H := hP
            have hD : va_D A (wl_k_X8_kth cI cJ cK x0 xn xl xt xo xf xs xp xq xr xc f1 f2 o1 (nI z) nf (nI fz_8) fn_9 fs_10 2 of_16) := hD
            refine lv_iload hx hb dX8_kth_70 (lv_at hl 0 rfl) ?_
            have hsI_l9 : (nI a_1).toInt = ((a_1 : Nat) : Int) := nI_toInt (by omega)
            have hsN_l9 : (nI a_1).toInt.toNat = a_1 := nIt (by omega)
            have hsI_r9 : (nI b_2).toInt = ((b_2 : Nat) : Int) := nI_toInt (by omega)
            have hsN_r9 : (nI b_2).toInt.toNat = b_2 := nIt (by omega)
            have hsI_k9 : (nI w_6).toInt = ((w_6 : Nat) : Int) := nI_toInt (by omega)
            have hsN_k9 : (nI w_6).toInt.toNat = w_6 := nIt (by omega)
            exact my_retI hx hb hr hlocks hK hS (wl_k_X8_kth cI cJ cK x0 xn xl xt xo xf xs xp xq xr xc f1 f2 o1 (nI z) nf (nI fz_8) fn_9 fs_10 2 of_16) hP hD (Or.inr (Or.inr (⟨fz_8, fn_9, fs_10, 2, of_16, rfl, (by first | assumption | omega | trivial | decide +kernel), (by first | assumption | omega | trivial | decide +kernel), (by first | assumption | omega | trivial | decide +kernel), (by first | assumption | omega | trivial | decide +kernel), (by first | assumption | omega | trivial | decide +kernel), (by first | assumption | omega | trivial | decide +kernel), (by first | assumption | omega | trivial | decide +kernel), (by rw [hsN_l9, hsN_r9, hsN_k9]; exact kth_mk hsv rfl), (by first | assumption | omega | trivial | decide +kernel)⟩))) dX8_kth_72
          ·
            exfalso; omega
        ·
          have d19 : ((w_6 : Nat) : Int) ≥ z_7.toInt := my_nlt c19 (nI_toInt (by omega)) rfl
          refine lv_bipush (v := (-2)) hx hb dX8_kth_22 (by decide +kernel) ?_
          have hsI_l9 : (nI a_1).toInt = ((a_1 : Nat) : Int) := nI_toInt (by omega)
          have hsN_l9 : (nI a_1).toInt.toNat = a_1 := nIt (by omega)
          have hsI_r9 : (nI b_2).toInt = ((b_2 : Nat) : Int) := nI_toInt (by omega)
          have hsN_r9 : (nI b_2).toInt.toNat = b_2 := nIt (by omega)
          have hsI_k9 : (nI w_6).toInt = ((w_6 : Nat) : Int) := nI_toInt (by omega)
          have hsN_k9 : (nI w_6).toInt.toNat = w_6 := nIt (by omega)
          exact my_retI hx hb hr hlocks hK hS (wl_k_X8_kth cI cJ cK x0 xn xl xt xo xf xs xp xq xr xc f1 f2 o1 (nI z) nf (nI fz) fn fs (nI oz) of) hP hD (Or.inr (Or.inl ⟨rfl, rfl, (by first | assumption | omega | trivial | decide +kernel), (by first | assumption | omega | trivial | decide +kernel), (by first | assumption | omega | trivial | decide +kernel), (by first | assumption | omega | trivial | decide +kernel)⟩)) dX8_kth_24
      ·
        have d10 : k9.toInt < (0 : Int) := my_nge c10 rfl (by decide +kernel)
        refine lv_iconst (v := (-1)) hx hb dX8_kth_13 (by decide +kernel) ?_
        have hsI_l9 : (nI a_1).toInt = ((a_1 : Nat) : Int) := nI_toInt (by omega)
        have hsN_l9 : (nI a_1).toInt.toNat = a_1 := nIt (by omega)
        have hsI_r9 : (nI b_2).toInt = ((b_2 : Nat) : Int) := nI_toInt (by omega)
        have hsN_r9 : (nI b_2).toInt.toNat = b_2 := nIt (by omega)
        exact my_retI hx hb hr hlocks hK hS (wl_k_X8_kth cI cJ cK x0 xn xl xt xo xf xs xp xq xr xc f1 f2 o1 (nI z) nf (nI fz) fn fs (nI oz) of) hP hD (Or.inl ⟨rfl, rfl, (by first | assumption | omega | trivial | decide +kernel)⟩) dX8_kth_14
  ·
    refine lv_if_eq (tgt := 13) hx hb dX8_kth_6 (by decide) (fun c6 => ?_) (fun c6 => ?_)
    ·
      refine lv_iconst (v := (-1)) hx hb dX8_kth_13 (by decide +kernel) ?_
      exact my_retI hx hb hr hlocks hK hS (wl_k_X8_kth cI cJ cK x0 xn xl xt xo xf xs xp xq xr xc f1 f2 o1 (nI z) nf (nI fz) fn fs (nI oz) of) hP hD (Or.inl ⟨rfl, rfl, (by first | assumption | omega | trivial | decide +kernel)⟩) dX8_kth_14
    ·
      exact absurd c6 (by decide +kernel)
set_option maxHeartbeats 4000000 in
set_option maxRecDepth 100000 in
theorem k_X8_rank (l : Launch) (D : va_G) (cI cJ cK : ClassId) (x0 : Nat) (xn : Nat) (xl : Nat) (xt : Nat) (xo : Nat) (xf : Nat) (xs : Nat) (xp : Nat) (xq : Nat) (xr : Nat) (xc : Nat) (z : Nat) (nf : Nat → Int32) (v9 : Int32) (i9 : Int32) (hz_z : z ≤ 64) (hR_nf : RB 0 255 nf) : cpI l yX8_rank wsX8_rank ({ frames := 1, cells := 0, slots := 0, locals := 60 } : Room) D (tyIJ cI cJ cK) [.ref x0, .int v9, .int i9] [(x0, .inr (8, [.ref xn, .int (nI z), .ref xl, .ref xt, .ref xo, .ref xf, .ref xs, .ref xp, .ref xq, .ref xr, .ref xc])), (xn, .inl (cI, 64, .inl nf))] (fun (r : Int32) => (r = (-1) ∧ (v9.toInt < 0 ∨ 255 < v9.toInt ∨ i9.toInt < 0 ∨ z < i9.toInt)) ∨ (∃ (t' : Nat), r = nI t' ∧ 0 ≤ v9.toInt ∧ v9.toInt ≤ 255 ∧ 0 ≤ i9.toInt ∧ i9.toInt ≤ z ∧ t' = cn nf v9.toInt.toNat 0 i9.toInt.toNat)) := by
  refine cpI.of (cc := cX8_rank) (maxL := 3) (ret := (some .int)) (by decide) rfl (Nat.le_of_ble_eq_true rfl) ?_
  intro p e s m below meth c ls hx hb hr hts hown hml hlocks hname hK hN hP hl
  have hl : lv_has ls 3 [(0, .ref x0), (1, .int v9), (2, .int i9)] := hl
  have hown : s.vm.findClass RX8 = some m.cls := hown
  have hi8 : ∀ w ∈ u_ws RX8 TX8 11, w ∈ wsX8_rank := by decide +kernel
  have fl13 := hts (.fieldLink RX8 13 "PlaneColumn" "size" "I") (by decide +kernel)
  refine lv_iload_n hx hb dX8_rank_0 rfl (lv_at hl 1 rfl) ?_
  refine my_gpI (my_pS (As := [.int v9]) (rest := []) ⟨hx, hb, hml, hown, hts⟩ (va_cwS 1 hts gX8_rank_X8_isNumber rfl rfl rfl (by decide +kernel) ⟨Nat.le_of_ble_eq_true rfl, Nat.le_of_ble_eq_true rfl⟩) hN hK hP [] rfl rfl hl.1 rfl (Nat.le_of_ble_eq_true rfl) dX8_rank_1 ⟨Nat.le_of_ble_eq_true rfl, Nat.le_of_ble_eq_true rfl⟩  (k_X8_isNumber l D cI cJ cK v9)) (fun r hp => ?_)
  rcases hp with ⟨k_1, rfl, rfl, ha_2⟩ | ⟨rfl, ho_3⟩
  ·
    refine lv_if_eq (tgt := 19) hx hb dX8_rank_4 (by decide) (fun c4 => ?_) (fun c4 => ?_)
    ·
      exact absurd c4 (by decide +kernel)
    ·
      refine lv_iload_n hx hb dX8_rank_7 rfl (lv_at hl 2 rfl) ?_
      refine lv_if_lt (tgt := 19) hx hb dX8_rank_8 (by decide) (fun c8 => ?_) (fun c8 => ?_)
      ·
        have d8 : i9.toInt < (0 : Int) := my_lt c8 rfl (by decide +kernel)
        refine lv_iconst (v := (-1)) hx hb dX8_rank_19 (by decide +kernel) ?_
        have hsI_v9 : (nI k_1).toInt = ((k_1 : Nat) : Int) := nI_toInt (by omega)
        have hsN_v9 : (nI k_1).toInt.toNat = k_1 := nIt (by omega)
        exact my_rpI hx hb hr hlocks (Or.inl ⟨rfl, (by first | assumption | omega | trivial | decide +kernel)⟩) dX8_rank_20
      ·
        have d8 : i9.toInt ≥ (0 : Int) := my_nlt c8 rfl (by decide +kernel)
        refine lv_iload_n hx hb dX8_rank_11 rfl (lv_at hl 2 rfl) ?_
        refine lv_aload_n hx hb dX8_rank_12 rfl (lv_at hl 0 rfl) ?_
        refine va_get (ci := 8) (v := .int (nI z)) (C := RX8) (T := TX8) (N := 11) hx hb hts hi8 hown hK hP 0 rfl rfl 1 (by decide) fl13 (fun _ h9 => h9) rfl dX8_rank_13 ?_
        refine lv_icmp_le (tgt := 21) hx hb dX8_rank_16 (by decide) (fun c16 => ?_) (fun c16 => ?_)
        ·
          have d16 : i9.toInt ≤ ((z : Nat) : Int) := my_le c16 rfl (nI_toInt (by omega))
          obtain ⟨w_4, rfl, hw_4⟩ := my_natP (x := i9) (by omega)
          have hlw_4 : w_4 < 2147483648 := by have h9 := Int32.toInt_lt (nI w_4); omega
          refine lv_aload_n hx hb dX8_rank_21 rfl (lv_at hl 0 rfl) ?_
          refine lv_iload_n hx hb dX8_rank_22 rfl (lv_at hl 1 rfl) ?_
          refine lv_iconst (v := 0) hx hb dX8_rank_23 (by decide +kernel) ?_
          refine lv_iload_n hx hb dX8_rank_24 rfl (lv_at hl 2 rfl) ?_
          refine my_gpI (my_pV (As := [.int (nI k_1), .int 0, .int (nI w_4)]) (rest := []) (ci := 8) ⟨hx, hb, hml, hown, hts⟩ (cwV 3 hts gX8_rank_X8_timesIn rfl rfl rfl (by decide +kernel) ⟨Nat.le_of_ble_eq_true rfl, Nat.le_of_ble_eq_true rfl⟩) hN hK hP [0, 1] rfl 0 rfl rfl rfl rfl hl.1 rfl (Nat.le_of_ble_eq_true rfl) dX8_rank_25 ⟨Nat.le_of_ble_eq_true rfl, Nat.le_of_ble_eq_true rfl⟩  (kf_X8_timesIn l D cI cJ cK x0 xn xl xt xo xf xs xp xq xr xc z nf k_1 0 w_4 (by first | assumption | omega | decide +kernel) hR_nf (by first | assumption | omega | decide +kernel) (by first | assumption | omega | decide +kernel) (by first | assumption | omega | decide +kernel))) (fun r hp => ?_)
          obtain ⟨t_5, rfl, htm, hq_6⟩ := hp
          have hsI_v9 : (nI k_1).toInt = ((k_1 : Nat) : Int) := nI_toInt (by omega)
          have hsN_v9 : (nI k_1).toInt.toNat = k_1 := nIt (by omega)
          have hsI_i9 : (nI w_4).toInt = ((w_4 : Nat) : Int) := nI_toInt (by omega)
          have hsN_i9 : (nI w_4).toInt.toNat = w_4 := nIt (by omega)
          exact my_rpI hx hb hr hlocks (Or.inr (⟨t_5, rfl, (by first | assumption | omega | trivial | decide +kernel), (by first | assumption | omega | trivial | decide +kernel), (by first | assumption | omega | trivial | decide +kernel), (by first | assumption | omega | trivial | decide +kernel), (by rw [hsN_v9, hsN_i9]; exact htm)⟩)) dX8_rank_28
        ·
          have d16 : i9.toInt > ((z : Nat) : Int) := my_nle c16 rfl (nI_toInt (by omega))
          refine lv_iconst (v := (-1)) hx hb dX8_rank_19 (by decide +kernel) ?_
          have hsI_v9 : (nI k_1).toInt = ((k_1 : Nat) : Int) := nI_toInt (by omega)
          have hsN_v9 : (nI k_1).toInt.toNat = k_1 := nIt (by omega)
          exact my_rpI hx hb hr hlocks (Or.inl ⟨rfl, (by first | assumption | omega | trivial | decide +kernel)⟩) dX8_rank_20
  ·
    refine lv_if_eq (tgt := 19) hx hb dX8_rank_4 (by decide) (fun c4 => ?_) (fun c4 => ?_)
    ·
      refine lv_iconst (v := (-1)) hx hb dX8_rank_19 (by decide +kernel) ?_
      exact my_rpI hx hb hr hlocks (Or.inl ⟨rfl, (by first | assumption | omega | trivial | decide +kernel)⟩) dX8_rank_20
    ·
      exact absurd c4 (by decide +kernel)
set_option maxHeartbeats 4000000 in
set_option maxRecDepth 100000 in
theorem k_X8_select (l : Launch) (D : va_G) (cI cJ cK : ClassId) (x0 : Nat) (xn : Nat) (xl : Nat) (xt : Nat) (xo : Nat) (xf : Nat) (xs : Nat) (xp : Nat) (xq : Nat) (xr : Nat) (xc : Nat) (z : Nat) (nf : Nat → Int32) (v9 : Int32) (k9 : Int32) (hz_z : z ≤ 64) (hR_nf : RB 0 255 nf) : cpI l yX8_select wsX8_select ({ frames := 1, cells := 0, slots := 0, locals := 60 } : Room) D (tyIJ cI cJ cK) [.ref x0, .int v9, .int k9] [(x0, .inr (8, [.ref xn, .int (nI z), .ref xl, .ref xt, .ref xo, .ref xf, .ref xs, .ref xp, .ref xq, .ref xr, .ref xc])), (xn, .inl (cI, 64, .inl nf))] (fun (r : Int32) => (r = (-1) ∧ (v9.toInt < 0 ∨ 255 < v9.toInt ∨ k9.toInt < 0)) ∨ (r = (-2) ∧ 0 ≤ v9.toInt ∧ v9.toInt ≤ 255 ∧ 0 ≤ k9.toInt ∧ cn nf v9.toInt.toNat 0 z ≤ k9.toInt.toNat) ∨ (∃ (p' : Nat), r = nI p' ∧ 0 ≤ v9.toInt ∧ v9.toInt ≤ 255 ∧ 0 ≤ k9.toInt ∧ p' < z ∧ cn nf v9.toInt.toNat 0 p' = k9.toInt.toNat ∧ nf p' = nI v9.toInt.toNat)) := by
  refine cpI.of (cc := cX8_select) (maxL := 5) (ret := (some .int)) (by decide) rfl (Nat.le_of_ble_eq_true rfl) ?_
  intro p e s m below meth c ls hx hb hr hts hown hml hlocks hname hK hN hP hl
  have hl : lv_has ls 5 [(0, .ref x0), (1, .int v9), (2, .int k9)] := hl
  have hown : s.vm.findClass RX8 = some m.cls := hown
  have hi8 : ∀ w ∈ u_ws RX8 TX8 11, w ∈ wsX8_select := by decide +kernel
  have fl13 := hts (.fieldLink RX8 13 "PlaneColumn" "size" "I") (by decide +kernel)
  have fl9 := hts (.fieldLink RX8 9 "PlaneColumn" "numbers" "[I") (by decide +kernel)
  refine lv_iload_n hx hb dX8_select_0 rfl (lv_at hl 1 rfl) ?_
  refine my_gpI (my_pS (As := [.int v9]) (rest := []) ⟨hx, hb, hml, hown, hts⟩ (va_cwS 1 hts gX8_select_X8_isNumber rfl rfl rfl (by decide +kernel) ⟨Nat.le_of_ble_eq_true rfl, Nat.le_of_ble_eq_true rfl⟩) hN hK hP [] rfl rfl hl.1 rfl (Nat.le_of_ble_eq_true rfl) dX8_select_1 ⟨Nat.le_of_ble_eq_true rfl, Nat.le_of_ble_eq_true rfl⟩  (k_X8_isNumber l D cI cJ cK v9)) (fun r hp => ?_)
  rcases hp with ⟨k_1, rfl, rfl, ha_2⟩ | ⟨rfl, ho_3⟩
  ·
    refine lv_if_eq (tgt := 11) hx hb dX8_select_4 (by decide) (fun c4 => ?_) (fun c4 => ?_)
    ·
      exact absurd c4 (by decide +kernel)
    ·
      refine lv_iload_n hx hb dX8_select_7 rfl (lv_at hl 2 rfl) ?_
      refine lv_if_ge (tgt := 13) hx hb dX8_select_8 (by decide) (fun c8 => ?_) (fun c8 => ?_)
      ·
        have d8 : k9.toInt ≥ (0 : Int) := my_ge c8 rfl (by decide +kernel)
        obtain ⟨w_4, rfl, hw_4⟩ := my_natP (x := k9) (by omega)
        have hlw_4 : w_4 < 2147483648 := by have h9 := Int32.toInt_lt (nI w_4); omega
        refine lv_iconst (v := 0) hx hb dX8_select_13 (by decide +kernel) ?_
        refine lv_istore_n (lv' := [(3, .int 0), (0, .ref x0), (1, .int (nI k_1)), (2, .int (nI w_4))]) hx hb dX8_select_14 rfl hl (by decide) rfl (fun ls hl => ?_)
        refine lv_iconst (v := 0) hx hb dX8_select_15 (by decide +kernel) ?_
        refine lv_istore (lv' := [(4, .int 0), (3, .int 0), (0, .ref x0), (1, .int (nI k_1)), (2, .int (nI w_4))]) hx hb dX8_select_16 hl (by decide) rfl (fun ls hl => ?_)
        have loop18 : ∀ (n9 : Nat) (k : Nat) (t : Nat), 64 - k < n9 → (k ≤ 64) → (k ≤ z) → (t = cn nf k_1 0 k) → (t ≤ w_4) → ∀ (ls : Array Slot), lv_has ls 5 [(4, .int (nI k)), (3, .int (nI t)), (0, .ref x0), (1, .int (nI k_1)), (2, .int (nI w_4))] → W p l e ({ frames := 1, cells := 0, slots := 0, locals := 60 } : Room) s m [.ref x0, .int (nI k_1), .int (nI w_4)].toArray below meth c s.heap [] 0 0 (MQ below (vp_Si (fun (r : Int32) => (r = (-1) ∧ ((nI k_1).toInt < 0 ∨ 255 < (nI k_1).toInt ∨ (nI w_4).toInt < 0)) ∨ (r = (-2) ∧ 0 ≤ (nI k_1).toInt ∧ (nI k_1).toInt ≤ 255 ∧ 0 ≤ (nI w_4).toInt ∧ cn nf (nI k_1).toInt.toNat 0 z ≤ (nI w_4).toInt.toNat) ∨ (∃ (p' : Nat), r = nI p' ∧ 0 ≤ (nI k_1).toInt ∧ (nI k_1).toInt ≤ 255 ∧ 0 ≤ (nI w_4).toInt ∧ p' < z ∧ cn nf (nI k_1).toInt.toNat 0 p' = (nI w_4).toInt.toNat ∧ nf p' = nI (nI k_1).toInt.toNat))) [.ref x0, .int (nI k_1), .int (nI w_4)].toArray s 0 0 (fun _ => False)) (F0 m 18 ls []) := by
          intro n9
          induction n9 with
          | zero =>
            intro k t hn9
            exact absurd hn9 (Nat.not_lt_zero _)
          | succ n9 ih18 =>
            intro k t hn9 hk_k hkz ht ht2 ls hl
            refine lv_iload hx hb dX8_select_18 (lv_at hl 0 rfl) ?_
            refine lv_aload_n hx hb dX8_select_20 rfl (lv_at hl 2 rfl) ?_
            refine va_get (ci := 8) (v := .int (nI z)) (C := RX8) (T := TX8) (N := 11) hx hb hts hi8 hown hK hP 0 rfl rfl 1 (by decide) fl13 (fun _ h9 => h9) rfl dX8_select_21 ?_
            refine lv_icmp_ge (tgt := 55) hx hb dX8_select_24 (by decide) (fun c24 => ?_) (fun c24 => ?_)
            ·
              have d24 : ((k : Nat) : Int) ≥ ((z : Nat) : Int) := my_ge c24 (nI_toInt (by omega)) (nI_toInt (by omega))
              refine lv_bipush (v := (-2)) hx hb dX8_select_55 (by decide +kernel) ?_
              have hsI_v9 : (nI k_1).toInt = ((k_1 : Nat) : Int) := nI_toInt (by omega)
              have hsN_v9 : (nI k_1).toInt.toNat = k_1 := nIt (by omega)
              have hsI_k9 : (nI w_4).toInt = ((w_4 : Nat) : Int) := nI_toInt (by omega)
              have hsN_k9 : (nI w_4).toInt.toNat = w_4 := nIt (by omega)
              exact my_rpI hx hb hr hlocks (Or.inr (Or.inl ⟨rfl, (by first | assumption | omega | trivial | decide +kernel), (by first | assumption | omega | trivial | decide +kernel), (by first | assumption | omega | trivial | decide +kernel), (by rw [hsN_v9, hsN_k9, show z = k from (by omega)]; omega)⟩)) dX8_select_57
            ·
              have d24 : ((k : Nat) : Int) < ((z : Nat) : Int) := my_nge c24 (nI_toInt (by omega)) (nI_toInt (by omega))
              refine lv_aload_n hx hb dX8_select_27 rfl (lv_at hl 2 rfl) ?_
              refine va_get (ci := 8) (v := .ref xn) (C := RX8) (T := TX8) (N := 11) hx hb hts hi8 hown hK hP 0 rfl rfl 0 (by decide) fl9 (fun _ h9 => h9) rfl dX8_select_28 ?_
              refine lv_iload hx hb dX8_select_31 (lv_at hl 0 rfl) ?_
              refine va_iald hx hb hK hP 1 0 rfl rfl (vp_in_nI (by omega) (by omega)) dX8_select_33 ?_
              refine my_eqi (y := nf k) (congrArg nf (nI_clamp (by omega))) ?_
              have hb_5 := hR_nf k
              refine lv_iload_n hx hb dX8_select_34 rfl (lv_at hl 3 rfl) ?_
              refine lv_icmp_ne (tgt := 49) hx hb dX8_select_35 (by decide) (fun c35 => ?_) (fun c35 => ?_)
              ·
                have d35 : (nf k).toInt ≠ ((k_1 : Nat) : Int) := my_ne c35 rfl (nI_toInt (by omega))
                refine lv_iinc (v := nI (k + 1)) (lv' := [(4, .int (nI (k + 1))), (3, .int (nI t)), (0, .ref x0), (1, .int (nI k_1)), (2, .int (nI w_4))]) hx hb dX8_select_49 hl (k := 0) rfl (my_incN k 1 (by decide +kernel)) (by decide) rfl (fun ls hl => ?_)
                refine lv_goto (tgt := 18) hx hb dX8_select_52 (by decide) ?_
                exact ih18  (k + 1) t (by omega) (by first | assumption | omega | decide +kernel) (by first | assumption | omega | decide +kernel) (by first | exact cn_go1 ht (by omega) (by omega) (by assumption) | exact cn_go0 ht (by omega) (by assumption)) (by first | assumption | omega | decide +kernel) ls (lv_sub hl [0, 1, 2, 3, 4] rfl)
              ·
                have d35 : (nf k).toInt = ((k_1 : Nat) : Int) := my_eq c35 rfl (nI_toInt (by omega))
                refine lv_iload_n hx hb dX8_select_38 rfl (lv_at hl 1 rfl) ?_
                refine lv_iload_n hx hb dX8_select_39 rfl (lv_at hl 4 rfl) ?_
                refine lv_icmp_ne (tgt := 46) hx hb dX8_select_40 (by decide) (fun c40 => ?_) (fun c40 => ?_)
                ·
                  have d40 : ((t : Nat) : Int) ≠ ((w_4 : Nat) : Int) := my_ne c40 (nI_toInt (by omega)) (nI_toInt (by omega))
                  refine lv_iinc (v := nI (t + 1)) (lv' := [(3, .int (nI (t + 1))), (4, .int (nI k)), (0, .ref x0), (1, .int (nI k_1)), (2, .int (nI w_4))]) hx hb dX8_select_46 hl (k := 1) rfl (my_incN t 1 (by decide +kernel)) (by decide) rfl (fun ls hl => ?_)
                  refine lv_iinc (v := nI (k + 1)) (lv' := [(4, .int (nI (k + 1))), (3, .int (nI (t + 1))), (0, .ref x0), (1, .int (nI k_1)), (2, .int (nI w_4))]) hx hb dX8_select_49 hl (k := 1) rfl (my_incN k 1 (by decide +kernel)) (by decide) rfl (fun ls hl => ?_)
                  refine lv_goto (tgt := 18) hx hb dX8_select_52 (by decide) ?_
                  exact ih18  (k + 1) (t + 1) (by omega) (by first | assumption | omega | decide +kernel) (by first | assumption | omega | decide +kernel) (by first | exact cn_go1 ht (by omega) (by omega) (by assumption) | exact cn_go0 ht (by omega) (by assumption)) (by first | assumption | omega | decide +kernel) ls (lv_sub hl [0, 1, 2, 3, 4] rfl)
                ·
                  have d40 : ((t : Nat) : Int) = ((w_4 : Nat) : Int) := my_eq c40 (nI_toInt (by omega)) (nI_toInt (by omega))
                  refine lv_iload hx hb dX8_select_43 (lv_at hl 0 rfl) ?_
                  have hsI_v9 : (nI k_1).toInt = ((k_1 : Nat) : Int) := nI_toInt (by omega)
                  have hsN_v9 : (nI k_1).toInt.toNat = k_1 := nIt (by omega)
                  have hsI_k9 : (nI w_4).toInt = ((w_4 : Nat) : Int) := nI_toInt (by omega)
                  have hsN_k9 : (nI w_4).toInt.toNat = w_4 := nIt (by omega)
                  exact my_rpI hx hb hr hlocks (Or.inr (Or.inr (⟨k, rfl, (by first | assumption | omega | trivial | decide +kernel), (by first | assumption | omega | trivial | decide +kernel), (by first | assumption | omega | trivial | decide +kernel), (by first | assumption | omega | trivial | decide +kernel), (by rw [hsN_v9, hsN_k9, ← ht]; omega), (by rw [hsN_v9]; exact my_eqI d35 (nI_toInt (by omega)))⟩))) dX8_select_45
        exact loop18 ((64 - 0) + 1) 0 0 (Nat.lt_succ_self _) (by first | assumption | omega | decide +kernel) (by first | assumption | omega | decide +kernel) (rfl) (by first | assumption | omega | decide +kernel) ls (lv_sub hl [0, 1, 2, 3, 4] rfl)
      ·
        have d8 : k9.toInt < (0 : Int) := my_nge c8 rfl (by decide +kernel)
        refine lv_iconst (v := (-1)) hx hb dX8_select_11 (by decide +kernel) ?_
        have hsI_v9 : (nI k_1).toInt = ((k_1 : Nat) : Int) := nI_toInt (by omega)
        have hsN_v9 : (nI k_1).toInt.toNat = k_1 := nIt (by omega)
        exact my_rpI hx hb hr hlocks (Or.inl ⟨rfl, (by first | assumption | omega | trivial | decide +kernel)⟩) dX8_select_12
  ·
    refine lv_if_eq (tgt := 11) hx hb dX8_select_4 (by decide) (fun c4 => ?_) (fun c4 => ?_)
    ·
      refine lv_iconst (v := (-1)) hx hb dX8_select_11 (by decide +kernel) ?_
      exact my_rpI hx hb hr hlocks (Or.inl ⟨rfl, (by first | assumption | omega | trivial | decide +kernel)⟩) dX8_select_12
    ·
      exact absurd c4 (by decide +kernel)
abbrev wl_k_X8_band (cI cJ cK : ClassId) (x0 : Nat) (xn : Nat) (xl : Nat) (xt : Nat) (xo : Nat) (xf : Nat) (xs : Nat) (xp : Nat) (xq : Nat) (xr : Nat) (xc : Nat) (f1 : Nat) (f2 : Nat) (o1 : Nat) (v0_ : Int32) (v1_ : Nat → Int32) (v2_ : Int32) (v3_ : Nat → Int32) (v4_ : Nat → Int32) (v5_ : Int32) (v6_ : Nat → Int64) : va_W := [(x0, .inr (8, [.ref xn, .int v0_, .ref xl, .ref xt, .ref xo, .ref xf, .ref xs, .ref xp, .ref xq, .ref xr, .ref xc])), (xn, .inl (cI, 64, .inl v1_)), (xf, .inr (6, [.ref f1, .ref f2, .int v2_])), (f1, .inl (cI, 512, .inl v3_)), (f2, .inl (cI, 64, .inl v4_)), (xo, .inr (7, [.ref o1, .int v5_])), (o1, .inl (cJ, 64, .inr (.inl v6_)))]
set_option maxHeartbeats 4000000 in
set_option maxRecDepth 100000 in
theorem k_X8_band (l : Launch) (D : va_G) (cI cJ cK : ClassId) (x0 : Nat) (xn : Nat) (xl : Nat) (xt : Nat) (xo : Nat) (xf : Nat) (xs : Nat) (xp : Nat) (xq : Nat) (xr : Nat) (xc : Nat) (f1 : Nat) (f2 : Nat) (o1 : Nat) (z : Nat) (nf : Nat → Int32) (fz : Nat) (fn : Nat → Int32) (fs : Nat → Int32) (oz : Nat) (of : Nat → Int64) (l9 : Int32) (r9 : Int32) (a9 : Int32) (b9 : Int32) (hz_z : z ≤ 64) (hR_nf : RB 0 255 nf) (hz_fz : fz ≤ 64) (hz_oz : oz ≤ 64) : ctI l yX8_band wsX8_band ({ frames := 4, cells := 0, slots := 0, locals := 240 } : Room) D (tyIJ cI cJ cK) [.ref x0, .int l9, .int r9, .int a9, .int b9] (wl_k_X8_band cI cJ cK x0 xn xl xt xo xf xs xp xq xr xc f1 f2 o1 (nI z) nf (nI fz) fn fs (nI oz) of) (fun (r : Int32) (u : va_W) => (u = (wl_k_X8_band cI cJ cK x0 xn xl xt xo xf xs xp xq xr xc f1 f2 o1 (nI z) nf (nI fz) fn fs (nI oz) of) ∧ r = (-1) ∧ (l9.toInt < 0 ∨ r9.toInt < l9.toInt ∨ z < r9.toInt ∨ a9.toInt < 0 ∨ 255 < a9.toInt ∨ b9.toInt < 0 ∨ 255 < b9.toInt ∨ b9.toInt < a9.toInt)) ∨ (∃ (t' : Nat) (fz' : Nat) (fn' : Nat → Int32) (fs' : Nat → Int32) (oz' : Nat) (of' : Nat → Int64), u = (wl_k_X8_band cI cJ cK x0 xn xl xt xo xf xs xp xq xr xc f1 f2 o1 (nI z) nf (nI fz') fn' fs' (nI oz') of') ∧ r = nI t' ∧ fz' ≤ 64 ∧ oz' ≤ 64 ∧ 0 ≤ l9.toInt ∧ l9.toInt ≤ r9.toInt ∧ r9.toInt ≤ z ∧ 0 ≤ a9.toInt ∧ a9.toInt ≤ b9.toInt ∧ b9.toInt ≤ 255 ∧ t' + fb_sm (cnF nf l9.toInt.toNat r9.toInt.toNat) a9.toInt.toNat = fb_sm (cnF nf l9.toInt.toNat r9.toInt.toNat) (b9.toInt.toNat + 1) ∧ oz' = 1)) := by
  refine ctI.of (cc := cX8_band) (maxL := 7) (ret := (some .int)) (by decide) rfl (Nat.le_of_ble_eq_true rfl) ?_
  intro p e s m below meth c ls A hx hb hr hts hown hml hlocks hname hA hK hN hP hD hS hl
  have hl : lv_has ls 7 [(0, .ref x0), (1, .int l9), (2, .int r9), (3, .int a9), (4, .int b9)] := hl
  have hown : s.vm.findClass RX8 = some m.cls := hown
  have hi8 : ∀ w ∈ u_ws RX8 TX8 11, w ∈ wsX8_band := by decide +kernel
  have fl41 := hts (.fieldLink RX8 41 "PlaneColumn" "first" "LPlaneColumn$Tally;") (by decide +kernel)
  have fl9 := hts (.fieldLink RX8 9 "PlaneColumn" "numbers" "[I") (by decide +kernel)
  refine lv_aload_n hx hb dX8_band_0 rfl (lv_at hl 0 rfl) ?_
  refine lv_iload_n hx hb dX8_band_1 rfl (lv_at hl 1 rfl) ?_
  refine lv_iload_n hx hb dX8_band_2 rfl (lv_at hl 2 rfl) ?_
  refine my_gpI (my_pV (As := [.int l9, .int r9]) (rest := []) (ci := 8) ⟨hx, hb, hml, hown, hts⟩ (cwV 2 hts gX8_band_X8_isSpan rfl rfl rfl (by decide +kernel) ⟨Nat.le_of_ble_eq_true rfl, Nat.le_of_ble_eq_true rfl⟩) hN hK hP [0] rfl 0 rfl rfl rfl rfl hl.1 rfl (Nat.le_of_ble_eq_true rfl) dX8_band_3 ⟨Nat.le_of_ble_eq_true rfl, Nat.le_of_ble_eq_true rfl⟩  (k_X8_isSpan l D cI cJ cK x0 xn xl xt xo xf xs xp xq xr xc z l9 r9 (by first | assumption | omega | decide +kernel))) (fun r hp => ?_)
  rcases hp with ⟨a_1, b_2, rfl, rfl, rfl, ha_3, hb_4⟩ | ⟨rfl, ho_5⟩
  ·
    refine lv_if_eq (tgt := 30) hx hb dX8_band_6 (by decide) (fun c6 => ?_) (fun c6 => ?_)
    ·
      exact absurd c6 (by decide +kernel)
    ·
      refine lv_iload_n hx hb dX8_band_9 rfl (lv_at hl 3 rfl) ?_
      refine my_gpI (my_pS (As := [.int a9]) (rest := []) ⟨hx, hb, hml, hown, hts⟩ (va_cwS 1 hts gX8_band_X8_isNumber rfl rfl rfl (by decide +kernel) ⟨Nat.le_of_ble_eq_true rfl, Nat.le_of_ble_eq_true rfl⟩) hN hK hP [] rfl rfl hl.1 rfl (Nat.le_of_ble_eq_true rfl) dX8_band_10 ⟨Nat.le_of_ble_eq_true rfl, Nat.le_of_ble_eq_true rfl⟩  (k_X8_isNumber l D cI cJ cK a9)) (fun r hp => ?_)
      rcases hp with ⟨k_6, rfl, rfl, ha_7⟩ | ⟨rfl, ho_8⟩
      ·
        refine lv_if_eq (tgt := 30) hx hb dX8_band_13 (by decide) (fun c13 => ?_) (fun c13 => ?_)
        ·
          exact absurd c13 (by decide +kernel)
        ·
          refine lv_iload hx hb dX8_band_16 (lv_at hl 4 rfl) ?_
          refine my_gpI (my_pS (As := [.int b9]) (rest := []) ⟨hx, hb, hml, hown, hts⟩ (va_cwS 1 hts gX8_band_X8_isNumber rfl rfl rfl (by decide +kernel) ⟨Nat.le_of_ble_eq_true rfl, Nat.le_of_ble_eq_true rfl⟩) hN hK hP [] rfl rfl hl.1 rfl (Nat.le_of_ble_eq_true rfl) dX8_band_18 ⟨Nat.le_of_ble_eq_true rfl, Nat.le_of_ble_eq_true rfl⟩  (k_X8_isNumber l D cI cJ cK b9)) (fun r hp => ?_)
          rcases hp with ⟨k_9, rfl, rfl, ha_10⟩ | ⟨rfl, ho_11⟩
          ·
            refine lv_if_eq (tgt := 30) hx hb dX8_band_21 (by decide) (fun c21 => ?_) (fun c21 => ?_)
            ·
              exact absurd c21 (by decide +kernel)
            ·
              refine lv_iload_n hx hb dX8_band_24 rfl (lv_at hl 3 rfl) ?_
              refine lv_iload hx hb dX8_band_25 (lv_at hl 4 rfl) ?_
              refine lv_icmp_le (tgt := 32) hx hb dX8_band_27 (by decide) (fun c27 => ?_) (fun c27 => ?_)
              ·
                have d27 : ((k_6 : Nat) : Int) ≤ ((k_9 : Nat) : Int) := my_le c27 (nI_toInt (by omega)) (nI_toInt (by omega))
                refine lv_aload_n hx hb dX8_band_32 rfl (lv_at hl 0 rfl) ?_
                refine va_get (ci := 8) (v := .ref xf) (C := RX8) (T := TX8) (N := 11) hx hb hts hi8 hown hK hP 0 rfl rfl 5 (by decide) fl41 (fun _ h9 => h9) rfl dX8_band_33 ?_
                refine lv_aload_n hx hb dX8_band_36 rfl (lv_at hl 0 rfl) ?_
                refine va_get (ci := 8) (v := .ref xn) (C := RX8) (T := TX8) (N := 11) hx hb hts hi8 hown hK hP 0 rfl rfl 0 (by decide) fl9 (fun _ h9 => h9) rfl dX8_band_37 ?_
                refine lv_iload_n hx hb dX8_band_40 rfl (lv_at hl 1 rfl) ?_
                refine lv_iload_n hx hb dX8_band_41 rfl (lv_at hl 2 rfl) ?_
                refine my_goVS (wc := (wl_k_X6_take cI cJ cK xf f1 f2 xn (nI fz) fn fs nf)) hP hD hS hA [2, 3, 4, 1] rfl [none, some 3, some 0, some 1, some 2] (by decide +kernel) (my_cV (As := [.ref xn, .int (nI a_1), .int (nI b_2)]) (rest := []) (ci := 6) (wc := (wl_k_X6_take cI cJ cK xf f1 f2 xn (nI fz) fn fs nf)) ⟨hx, hb, hml, hown, hts⟩ (cwV 3 hts gX8_band_X6_take rfl rfl rfl (by decide +kernel) ⟨Nat.le_of_ble_eq_true rfl, Nat.le_of_ble_eq_true rfl⟩) hN hK hP hD [2, 3, 4, 1] rfl (by decide) rfl 2 rfl rfl rfl rfl hl.1 rfl (Nat.le_of_ble_eq_true rfl) dX8_band_42 ⟨Nat.le_of_ble_eq_true rfl, Nat.le_of_ble_eq_true rfl⟩  ((k_X6_take l D cI cJ cK xf f1 f2 xn fz fn fs nf a_1 b_2 (by first | assumption | omega | decide +kernel) hR_nf (by first | assumption | omega | decide +kernel) (by first | assumption | omega | decide +kernel)) _)) (fun u H locs hp hPD hS => ?_)
                obtain ⟨fz_12, fn_13, fs_14, rfl, hhz_fz_15, hnd, hn8, hfz, hsv⟩ := hp
                obtain ⟨hP, hD⟩ := hPD rfl
                have hP : va_P D vwCl (wl_k_X8_band cI cJ cK x0 xn xl xt xo xf xs xp xq xr xc f1 f2 o1 (nI z) nf (nI fz_12) fn_13 fs_14 (nI oz) of) H := hP
                have hD : va_D A (wl_k_X8_band cI cJ cK x0 xn xl xt xo xf xs xp xq xr xc f1 f2 o1 (nI z) nf (nI fz_12) fn_13 fs_14 (nI oz) of) := hD
                refine lv_iconst (v := 0) hx hb dX8_band_45 (by decide +kernel) ?_
                refine lv_istore (lv' := [(5, .int 0), (0, .ref x0), (1, .int (nI a_1)), (2, .int (nI b_2)), (3, .int (nI k_6)), (4, .int (nI k_9))]) hx hb dX8_band_46 hl (by decide) rfl (fun ls hl => ?_)
                refine lv_iload_n hx hb dX8_band_48 rfl (lv_at hl 4 rfl) ?_
                refine lv_istore (lv' := [(6, .int (nI k_6)), (5, .int 0), (0, .ref x0), (1, .int (nI a_1)), (2, .int (nI b_2)), (3, .int (nI k_6)), (4, .int (nI k_9))]) hx hb dX8_band_49 hl (by decide) rfl (fun ls hl => ?_)
                have loop51 : ∀ (n9 : Nat) (v : Nat) (t : Nat), 256 - v < n9 → (v ≤ 256) → (k_6 ≤ v) → (v ≤ k_9 + 1) → (t + fb_sm (cnF nf a_1 b_2) k_6 = fb_sm (cnF nf a_1 b_2) v) → ∀ (H : Heap) (locs : List Loc) (ls : Array Slot), va_P D vwCl (wl_k_X8_band cI cJ cK x0 xn xl xt xo xf xs xp xq xr xc f1 f2 o1 (nI z) nf (nI fz_12) fn_13 fs_14 (nI oz) of) H → va_D A (wl_k_X8_band cI cJ cK x0 xn xl xt xo xf xs xp xq xr xc f1 f2 o1 (nI z) nf (nI fz_12) fn_13 fs_14 (nI oz) of) → va_S A s.heap H locs → lv_has ls 7 [(6, .int (nI v)), (5, .int (nI t)), (0, .ref x0), (1, .int (nI a_1)), (2, .int (nI b_2)), (3, .int (nI k_6)), (4, .int (nI k_9))] → W p l e ({ frames := 4, cells := 0, slots := 0, locals := 240 } : Room) s m [.ref x0, .int (nI a_1), .int (nI b_2), .int (nI k_6), .int (nI k_9)].toArray below meth c H locs 0 0 (MQ below (va_Qi (fun (r : Int32) (u : va_W) => (u = (wl_k_X8_band cI cJ cK x0 xn xl xt xo xf xs xp xq xr xc f1 f2 o1 (nI z) nf (nI fz) fn fs (nI oz) of) ∧ r = (-1) ∧ ((nI a_1).toInt < 0 ∨ (nI b_2).toInt < (nI a_1).toInt ∨ z < (nI b_2).toInt ∨ (nI k_6).toInt < 0 ∨ 255 < (nI k_6).toInt ∨ (nI k_9).toInt < 0 ∨ 255 < (nI k_9).toInt ∨ (nI k_9).toInt < (nI k_6).toInt)) ∨ (∃ (t' : Nat) (fz' : Nat) (fn' : Nat → Int32) (fs' : Nat → Int32) (oz' : Nat) (of' : Nat → Int64), u = (wl_k_X8_band cI cJ cK x0 xn xl xt xo xf xs xp xq xr xc f1 f2 o1 (nI z) nf (nI fz') fn' fs' (nI oz') of') ∧ r = nI t' ∧ fz' ≤ 64 ∧ oz' ≤ 64 ∧ 0 ≤ (nI a_1).toInt ∧ (nI a_1).toInt ≤ (nI b_2).toInt ∧ (nI b_2).toInt ≤ z ∧ 0 ≤ (nI k_6).toInt ∧ (nI k_6).toInt ≤ (nI k_9).toInt ∧ (nI k_9).toInt ≤ 255 ∧ t' + fb_sm (cnF nf (nI a_1).toInt.toNat (nI b_2).toInt.toNat) (nI k_6).toInt.toNat = fb_sm (cnF nf (nI a_1).toInt.toNat (nI b_2).toInt.toNat) ((nI k_9).toInt.toNat + 1) ∧ oz' = 1)) (my_B D (tyIJ cI cJ cK) A) A) [.ref x0, .int (nI a_1), .int (nI b_2), .int (nI k_6), .int (nI k_9)].toArray s 0 0 A) (F0 m 51 ls []) := by
                  intro n9
                  induction n9 with
                  | zero =>
                    intro v t hn9
                    exact absurd hn9 (Nat.not_lt_zero _)
                  | succ n9 ih51 =>
                    intro v t hn9 hk_v hav hvb ht H locs ls hP hD hS hl
                    refine lv_iload hx hb dX8_band_51 (lv_at hl 0 rfl) ?_
                    refine lv_iload hx hb dX8_band_53 (lv_at hl 6 rfl) ?_
                    refine lv_icmp_gt (tgt := 78) hx hb dX8_band_55 (by decide) (fun c55 => ?_) (fun c55 => ?_)
                    ·
                      have d55 : ((v : Nat) : Int) > ((k_9 : Nat) : Int) := my_gt c55 (nI_toInt (by omega)) (nI_toInt (by omega))
                      have hve : v = k_9 + 1 := by omega
                      refine lv_aload_n hx hb dX8_band_78 rfl (lv_at hl 2 rfl) ?_
                      refine lv_aload_n hx hb dX8_band_79 rfl (lv_at hl 2 rfl) ?_
                      refine va_get (ci := 8) (v := .ref xf) (C := RX8) (T := TX8) (N := 11) hx hb hts hi8 hown hK hP 0 rfl rfl 5 (by decide) fl41 (fun _ h9 => h9) rfl dX8_band_80 ?_
                      refine lv_iload_n hx hb dX8_band_83 rfl (lv_at hl 5 rfl) ?_
                      refine lv_iload hx hb dX8_band_84 (lv_at hl 6 rfl) ?_
                      refine my_gpI (my_pV (As := [.int (nI k_6), .int (nI k_9)]) (rest := [.ref x0]) (ci := 6) ⟨hx, hb, hml, hown, hts⟩ (cwV 2 hts gX8_band_X6_visitsOfBand rfl rfl rfl (by decide +kernel) ⟨Nat.le_of_ble_eq_true rfl, Nat.le_of_ble_eq_true rfl⟩) hN hK hP [2, 3] rfl 2 rfl rfl rfl rfl hl.1 rfl (Nat.le_of_ble_eq_true rfl) dX8_band_86 ⟨Nat.le_of_ble_eq_true rfl, Nat.le_of_ble_eq_true rfl⟩  (k_X6_visitsOfBand l D cI cJ cK xf f1 f2 fz_12 fn_13 k_6 k_9 (by first | assumption | omega | decide +kernel) (by first | assumption | omega | decide +kernel) (by first | assumption | omega | decide +kernel))) (fun r hp => ?_)
                      obtain _ := hp
                      obtain ⟨r_16, rfl⟩ : ∃ z, z = r := ⟨_, rfl⟩
                      refine lv_i2l (v := r_16.toInt64) hx hb dX8_band_89 rfl ?_
                      refine my_goVS (wc := (wl_k_X8_tell cI cJ cK x0 xn xl xt xo xf xs xp xq xr xc o1 (nI z) (nI oz) of)) hP hD hS hA [0, 5, 6] rfl [some 0, none, none, none, none, some 1, some 2] (by decide +kernel) (my_cV (As := [.long r_16.toInt64]) (rest := []) (ci := 8) (wc := (wl_k_X8_tell cI cJ cK x0 xn xl xt xo xf xs xp xq xr xc o1 (nI z) (nI oz) of)) ⟨hx, hb, hml, hown, hts⟩ (cwV 1 hts gX8_band_X8_tell rfl rfl rfl (by decide +kernel) ⟨Nat.le_of_ble_eq_true rfl, Nat.le_of_ble_eq_true rfl⟩) hN hK hP hD [0, 5, 6] rfl (by decide) rfl 0 rfl rfl rfl rfl hl.1 rfl (Nat.le_of_ble_eq_true rfl) dX8_band_90 ⟨Nat.le_of_ble_eq_true rfl, Nat.le_of_ble_eq_true rfl⟩  ((k_X8_tell l D cI cJ cK x0 xn xl xt xo xf xs xp xq xr xc o1 z oz of r_16.toInt64 (by first | assumption | omega | decide +kernel) (by first | assumption | omega | decide +kernel)) _)) (fun u H locs hp hPD hS => ?_)
                      obtain ⟨of_17, rfl, hv0, ht_18⟩ := hp
                      obtain ⟨hP, hD⟩ := hPD rfl
                      have hP : va_P D vwCl (wl_k_X8_band cI cJ cK x0 xn xl xt xo xf xs xp xq xr xc f1 f2 o1 (nI z) nf (nI fz_12) fn_13 fs_14 1 of_17) H := hP
                      have hD : va_D A (wl_k_X8_band cI cJ cK x0 xn xl xt xo xf xs xp xq xr xc f1 f2 o1 (nI z) nf (nI fz_12) fn_13 fs_14 1 of_17) := hD
                      refine lv_iload hx hb dX8_band_93 (lv_at hl 1 rfl) ?_
                      have hsI_l9 : (nI a_1).toInt = ((a_1 : Nat) : Int) := nI_toInt (by omega)
                      have hsN_l9 : (nI a_1).toInt.toNat = a_1 := nIt (by omega)
                      have hsI_r9 : (nI b_2).toInt = ((b_2 : Nat) : Int) := nI_toInt (by omega)
                      have hsN_r9 : (nI b_2).toInt.toNat = b_2 := nIt (by omega)
                      have hsI_a9 : (nI k_6).toInt = ((k_6 : Nat) : Int) := nI_toInt (by omega)
                      have hsN_a9 : (nI k_6).toInt.toNat = k_6 := nIt (by omega)
                      have hsI_b9 : (nI k_9).toInt = ((k_9 : Nat) : Int) := nI_toInt (by omega)
                      have hsN_b9 : (nI k_9).toInt.toNat = k_9 := nIt (by omega)
                      exact my_retI hx hb hr hlocks hK hS (wl_k_X8_band cI cJ cK x0 xn xl xt xo xf xs xp xq xr xc f1 f2 o1 (nI z) nf (nI fz_12) fn_13 fs_14 1 of_17) hP hD (Or.inr (⟨t, fz_12, fn_13, fs_14, 1, of_17, rfl, rfl, (by first | assumption | omega | trivial | decide +kernel), (by first | assumption | omega | trivial | decide +kernel), (by first | assumption | omega | trivial | decide +kernel), (by first | assumption | omega | trivial | decide +kernel), (by first | assumption | omega | trivial | decide +kernel), (by first | assumption | omega | trivial | decide +kernel), (by first | assumption | omega | trivial | decide +kernel), (by first | assumption | omega | trivial | decide +kernel), (by rw [hsN_l9, hsN_r9, hsN_a9, hsN_b9, ← hve]; exact ht), (by first | assumption | omega | trivial | decide +kernel)⟩)) dX8_band_95
                    ·
                      have d55 : ((v : Nat) : Int) ≤ ((k_9 : Nat) : Int) := my_ngt c55 (nI_toInt (by omega)) (nI_toInt (by omega))
                      refine lv_iload hx hb dX8_band_58 (lv_at hl 1 rfl) ?_
                      refine lv_aload_n hx hb dX8_band_60 rfl (lv_at hl 2 rfl) ?_
                      refine va_get (ci := 8) (v := .ref xf) (C := RX8) (T := TX8) (N := 11) hx hb hts hi8 hown hK hP 0 rfl rfl 5 (by decide) fl41 (fun _ h9 => h9) rfl dX8_band_61 ?_
                      refine lv_iload hx hb dX8_band_64 (lv_at hl 0 rfl) ?_
                      refine my_gpI (my_pV (As := [.int (nI v)]) (rest := [.int (nI t)]) (ci := 6) ⟨hx, hb, hml, hown, hts⟩ (cwV 1 hts gX8_band_X6_timesOf rfl rfl rfl (by decide +kernel) ⟨Nat.le_of_ble_eq_true rfl, Nat.le_of_ble_eq_true rfl⟩) hN hK hP [2, 3] rfl 2 rfl rfl rfl rfl hl.1 rfl (Nat.le_of_ble_eq_true rfl) dX8_band_66 ⟨Nat.le_of_ble_eq_true rfl, Nat.le_of_ble_eq_true rfl⟩  (kt_X6_timesOf l D cI cJ cK xf f1 f2 fz_12 fn_13 v (cnF nf a_1 b_2) (by first | assumption | omega | decide +kernel) (by first | assumption | omega | decide +kernel) (hn8) (cnF_64 (by omega)))) (fun r hp => ?_)
                      obtain ⟨t_19, rfl, htm, hq_20⟩ := hp
                      refine lv_iadd hx hb dX8_band_69 ?_
                      refine my_eqi (y := nI (t + t_19)) (nI_add _ _) ?_
                      refine lv_istore (lv' := [(5, .int (nI (t + t_19))), (6, .int (nI v)), (0, .ref x0), (1, .int (nI a_1)), (2, .int (nI b_2)), (3, .int (nI k_6)), (4, .int (nI k_9))]) hx hb dX8_band_70 hl (by decide) rfl (fun ls hl => ?_)
                      refine lv_iinc (v := nI (v + 1)) (lv' := [(6, .int (nI (v + 1))), (5, .int (nI (t + t_19))), (0, .ref x0), (1, .int (nI a_1)), (2, .int (nI b_2)), (3, .int (nI k_6)), (4, .int (nI k_9))]) hx hb dX8_band_72 hl (k := 1) rfl (my_incN v 1 (by decide +kernel)) (by decide) rfl (fun ls hl => ?_)
                      refine lv_goto (tgt := 51) hx hb dX8_band_75 (by decide) ?_
                      exact ih51  (v + 1) (t + t_19) (by omega) (by first | assumption | omega | decide +kernel) (by first | assumption | omega | decide +kernel) (by first | assumption | omega | decide +kernel) (by rw [fb_sm_succ]; omega) _ _ ls hP hD hS (lv_sub hl [0, 1, 2, 3, 4, 5, 6] rfl)
                exact loop51 ((256 - k_6) + 1) k_6 0 (Nat.lt_succ_self _) (by first | assumption | omega | decide +kernel) (by first | assumption | omega | decide +kernel) (by first | assumption | omega | decide +kernel) (Nat.zero_add _) _ _ ls hP hD hS (lv_sub hl [0, 1, 2, 3, 4, 5, 6] rfl)
              ·
                have d27 : ((k_6 : Nat) : Int) > ((k_9 : Nat) : Int) := my_nle c27 (nI_toInt (by omega)) (nI_toInt (by omega))
                refine lv_iconst (v := (-1)) hx hb dX8_band_30 (by decide +kernel) ?_
                have hsI_l9 : (nI a_1).toInt = ((a_1 : Nat) : Int) := nI_toInt (by omega)
                have hsN_l9 : (nI a_1).toInt.toNat = a_1 := nIt (by omega)
                have hsI_r9 : (nI b_2).toInt = ((b_2 : Nat) : Int) := nI_toInt (by omega)
                have hsN_r9 : (nI b_2).toInt.toNat = b_2 := nIt (by omega)
                have hsI_a9 : (nI k_6).toInt = ((k_6 : Nat) : Int) := nI_toInt (by omega)
                have hsN_a9 : (nI k_6).toInt.toNat = k_6 := nIt (by omega)
                have hsI_b9 : (nI k_9).toInt = ((k_9 : Nat) : Int) := nI_toInt (by omega)
                have hsN_b9 : (nI k_9).toInt.toNat = k_9 := nIt (by omega)
                exact my_retI hx hb hr hlocks hK hS (wl_k_X8_band cI cJ cK x0 xn xl xt xo xf xs xp xq xr xc f1 f2 o1 (nI z) nf (nI fz) fn fs (nI oz) of) hP hD (Or.inl ⟨rfl, rfl, (by first | assumption | omega | trivial | decide +kernel)⟩) dX8_band_31
          ·
            refine lv_if_eq (tgt := 30) hx hb dX8_band_21 (by decide) (fun c21 => ?_) (fun c21 => ?_)
            ·
              refine lv_iconst (v := (-1)) hx hb dX8_band_30 (by decide +kernel) ?_
              have hsI_l9 : (nI a_1).toInt = ((a_1 : Nat) : Int) := nI_toInt (by omega)
              have hsN_l9 : (nI a_1).toInt.toNat = a_1 := nIt (by omega)
              have hsI_r9 : (nI b_2).toInt = ((b_2 : Nat) : Int) := nI_toInt (by omega)
              have hsN_r9 : (nI b_2).toInt.toNat = b_2 := nIt (by omega)
              have hsI_a9 : (nI k_6).toInt = ((k_6 : Nat) : Int) := nI_toInt (by omega)
              have hsN_a9 : (nI k_6).toInt.toNat = k_6 := nIt (by omega)
              exact my_retI hx hb hr hlocks hK hS (wl_k_X8_band cI cJ cK x0 xn xl xt xo xf xs xp xq xr xc f1 f2 o1 (nI z) nf (nI fz) fn fs (nI oz) of) hP hD (Or.inl ⟨rfl, rfl, (by first | assumption | omega | trivial | decide +kernel)⟩) dX8_band_31
            ·
              exact absurd c21 (by decide +kernel)
      ·
        refine lv_if_eq (tgt := 30) hx hb dX8_band_13 (by decide) (fun c13 => ?_) (fun c13 => ?_)
        ·
          refine lv_iconst (v := (-1)) hx hb dX8_band_30 (by decide +kernel) ?_
          have hsI_l9 : (nI a_1).toInt = ((a_1 : Nat) : Int) := nI_toInt (by omega)
          have hsN_l9 : (nI a_1).toInt.toNat = a_1 := nIt (by omega)
          have hsI_r9 : (nI b_2).toInt = ((b_2 : Nat) : Int) := nI_toInt (by omega)
          have hsN_r9 : (nI b_2).toInt.toNat = b_2 := nIt (by omega)
          exact my_retI hx hb hr hlocks hK hS (wl_k_X8_band cI cJ cK x0 xn xl xt xo xf xs xp xq xr xc f1 f2 o1 (nI z) nf (nI fz) fn fs (nI oz) of) hP hD (Or.inl ⟨rfl, rfl, (by first | assumption | omega | trivial | decide +kernel)⟩) dX8_band_31
        ·
          exact absurd c13 (by decide +kernel)
  ·
    refine lv_if_eq (tgt := 30) hx hb dX8_band_6 (by decide) (fun c6 => ?_) (fun c6 => ?_)
    ·
      refine lv_iconst (v := (-1)) hx hb dX8_band_30 (by decide +kernel) ?_
      exact my_retI hx hb hr hlocks hK hS (wl_k_X8_band cI cJ cK x0 xn xl xt xo xf xs xp xq xr xc f1 f2 o1 (nI z) nf (nI fz) fn fs (nI oz) of) hP hD (Or.inl ⟨rfl, rfl, (by first | assumption | omega | trivial | decide +kernel)⟩) dX8_band_31
    ·
      exact absurd c6 (by decide +kernel)
abbrev wl_k_X8_below (cI cJ cK : ClassId) (x0 : Nat) (xn : Nat) (xl : Nat) (xt : Nat) (xo : Nat) (xf : Nat) (xs : Nat) (xp : Nat) (xq : Nat) (xr : Nat) (xc : Nat) (f1 : Nat) (f2 : Nat) (o1 : Nat) (v0_ : Int32) (v1_ : Nat → Int32) (v2_ : Int32) (v3_ : Nat → Int32) (v4_ : Nat → Int32) (v5_ : Int32) (v6_ : Nat → Int64) : va_W := [(x0, .inr (8, [.ref xn, .int v0_, .ref xl, .ref xt, .ref xo, .ref xf, .ref xs, .ref xp, .ref xq, .ref xr, .ref xc])), (xn, .inl (cI, 64, .inl v1_)), (xf, .inr (6, [.ref f1, .ref f2, .int v2_])), (f1, .inl (cI, 512, .inl v3_)), (f2, .inl (cI, 64, .inl v4_)), (xo, .inr (7, [.ref o1, .int v5_])), (o1, .inl (cJ, 64, .inr (.inl v6_)))]
set_option maxHeartbeats 4000000 in
set_option maxRecDepth 100000 in
theorem k_X8_below (l : Launch) (D : va_G) (cI cJ cK : ClassId) (x0 : Nat) (xn : Nat) (xl : Nat) (xt : Nat) (xo : Nat) (xf : Nat) (xs : Nat) (xp : Nat) (xq : Nat) (xr : Nat) (xc : Nat) (f1 : Nat) (f2 : Nat) (o1 : Nat) (z : Nat) (nf : Nat → Int32) (fz : Nat) (fn : Nat → Int32) (fs : Nat → Int32) (oz : Nat) (of : Nat → Int64) (l9 : Int32) (r9 : Int32) (v9 : Int32) (hz_z : z ≤ 64) (hR_nf : RB 0 255 nf) (hz_fz : fz ≤ 64) (hz_oz : oz ≤ 64) : ctI l yX8_below wsX8_below ({ frames := 4, cells := 0, slots := 0, locals := 240 } : Room) D (tyIJ cI cJ cK) [.ref x0, .int l9, .int r9, .int v9] (wl_k_X8_below cI cJ cK x0 xn xl xt xo xf xs xp xq xr xc f1 f2 o1 (nI z) nf (nI fz) fn fs (nI oz) of) (fun (r : Int32) (u : va_W) => (u = (wl_k_X8_below cI cJ cK x0 xn xl xt xo xf xs xp xq xr xc f1 f2 o1 (nI z) nf (nI fz) fn fs (nI oz) of) ∧ r = (-1) ∧ (l9.toInt < 0 ∨ r9.toInt < l9.toInt ∨ z < r9.toInt ∨ v9.toInt < 1 ∨ 256 < v9.toInt)) ∨ (∃ (fz' : Nat) (fn' : Nat → Int32) (fs' : Nat → Int32) (oz' : Nat) (of' : Nat → Int64), u = (wl_k_X8_below cI cJ cK x0 xn xl xt xo xf xs xp xq xr xc f1 f2 o1 (nI z) nf (nI fz') fn' fs' (nI oz') of') ∧ r = (-2) ∧ fz' ≤ 64 ∧ oz' ≤ 64 ∧ 0 ≤ l9.toInt ∧ l9.toInt ≤ r9.toInt ∧ r9.toInt ≤ z ∧ blN (cnF nf l9.toInt.toNat r9.toInt.toNat) v9.toInt ∧ 1 ≤ v9.toInt ∧ v9.toInt ≤ 256 ∧ oz' = oz) ∨ (∃ (fz' : Nat) (fn' : Nat → Int32) (fs' : Nat → Int32) (oz' : Nat) (of' : Nat → Int64), u = (wl_k_X8_below cI cJ cK x0 xn xl xt xo xf xs xp xq xr xc f1 f2 o1 (nI z) nf (nI fz') fn' fs' (nI oz') of') ∧ fz' ≤ 64 ∧ oz' ≤ 64 ∧ 0 ≤ l9.toInt ∧ l9.toInt ≤ r9.toInt ∧ r9.toInt ≤ z ∧ blP (cnF nf l9.toInt.toNat r9.toInt.toNat) v9.toInt r ∧ 1 ≤ v9.toInt ∧ v9.toInt ≤ 256 ∧ oz' = 1)) := by
  refine ctI.of (cc := cX8_below) (maxL := 5) (ret := (some .int)) (by decide) rfl (Nat.le_of_ble_eq_true rfl) ?_
  intro p e s m below meth c ls A hx hb hr hts hown hml hlocks hname hA hK hN hP hD hS hl
  have hl : lv_has ls 5 [(0, .ref x0), (1, .int l9), (2, .int r9), (3, .int v9)] := hl
  have hown : s.vm.findClass RX8 = some m.cls := hown
  have hi8 : ∀ w ∈ u_ws RX8 TX8 11, w ∈ wsX8_below := by decide +kernel
  have fl41 := hts (.fieldLink RX8 41 "PlaneColumn" "first" "LPlaneColumn$Tally;") (by decide +kernel)
  have fl9 := hts (.fieldLink RX8 9 "PlaneColumn" "numbers" "[I") (by decide +kernel)
  refine lv_aload_n hx hb dX8_below_0 rfl (lv_at hl 0 rfl) ?_
  refine lv_iload_n hx hb dX8_below_1 rfl (lv_at hl 1 rfl) ?_
  refine lv_iload_n hx hb dX8_below_2 rfl (lv_at hl 2 rfl) ?_
  refine my_gpI (my_pV (As := [.int l9, .int r9]) (rest := []) (ci := 8) ⟨hx, hb, hml, hown, hts⟩ (cwV 2 hts gX8_below_X8_isSpan rfl rfl rfl (by decide +kernel) ⟨Nat.le_of_ble_eq_true rfl, Nat.le_of_ble_eq_true rfl⟩) hN hK hP [0] rfl 0 rfl rfl rfl rfl hl.1 rfl (Nat.le_of_ble_eq_true rfl) dX8_below_3 ⟨Nat.le_of_ble_eq_true rfl, Nat.le_of_ble_eq_true rfl⟩  (k_X8_isSpan l D cI cJ cK x0 xn xl xt xo xf xs xp xq xr xc z l9 r9 (by first | assumption | omega | decide +kernel))) (fun r hp => ?_)
  rcases hp with ⟨a_1, b_2, rfl, rfl, rfl, ha_3, hb_4⟩ | ⟨rfl, ho_5⟩
  ·
    refine lv_if_eq (tgt := 21) hx hb dX8_below_6 (by decide) (fun c6 => ?_) (fun c6 => ?_)
    ·
      exact absurd c6 (by decide +kernel)
    ·
      refine lv_iload_n hx hb dX8_below_9 rfl (lv_at hl 3 rfl) ?_
      refine lv_iconst (v := 1) hx hb dX8_below_10 (by decide +kernel) ?_
      refine lv_icmp_lt (tgt := 21) hx hb dX8_below_11 (by decide) (fun c11 => ?_) (fun c11 => ?_)
      ·
        have d11 : v9.toInt < (1 : Int) := my_lt c11 rfl (by decide +kernel)
        refine lv_iconst (v := (-1)) hx hb dX8_below_21 (by decide +kernel) ?_
        have hsI_l9 : (nI a_1).toInt = ((a_1 : Nat) : Int) := nI_toInt (by omega)
        have hsN_l9 : (nI a_1).toInt.toNat = a_1 := nIt (by omega)
        have hsI_r9 : (nI b_2).toInt = ((b_2 : Nat) : Int) := nI_toInt (by omega)
        have hsN_r9 : (nI b_2).toInt.toNat = b_2 := nIt (by omega)
        exact my_retI hx hb hr hlocks hK hS (wl_k_X8_below cI cJ cK x0 xn xl xt xo xf xs xp xq xr xc f1 f2 o1 (nI z) nf (nI fz) fn fs (nI oz) of) hP hD (Or.inl ⟨rfl, rfl, (by first | assumption | omega | trivial | decide +kernel)⟩) dX8_below_22
      ·
        have d11 : v9.toInt ≥ (1 : Int) := my_nlt c11 rfl (by decide +kernel)
        refine lv_iload_n hx hb dX8_below_14 rfl (lv_at hl 3 rfl) ?_
        refine lv_sipush (v := 256) hx hb dX8_below_15 (by decide +kernel) ?_
        refine lv_icmp_le (tgt := 23) hx hb dX8_below_18 (by decide) (fun c18 => ?_) (fun c18 => ?_)
        ·
          have d18 : v9.toInt ≤ (256 : Int) := my_le c18 rfl (by decide +kernel)
          refine lv_aload_n hx hb dX8_below_23 rfl (lv_at hl 0 rfl) ?_
          refine va_get (ci := 8) (v := .ref xf) (C := RX8) (T := TX8) (N := 11) hx hb hts hi8 hown hK hP 0 rfl rfl 5 (by decide) fl41 (fun _ h9 => h9) rfl dX8_below_24 ?_
          refine lv_aload_n hx hb dX8_below_27 rfl (lv_at hl 0 rfl) ?_
          refine va_get (ci := 8) (v := .ref xn) (C := RX8) (T := TX8) (N := 11) hx hb hts hi8 hown hK hP 0 rfl rfl 0 (by decide) fl9 (fun _ h9 => h9) rfl dX8_below_28 ?_
          refine lv_iload_n hx hb dX8_below_31 rfl (lv_at hl 1 rfl) ?_
          refine lv_iload_n hx hb dX8_below_32 rfl (lv_at hl 2 rfl) ?_
          refine my_goVS (wc := (wl_k_X6_take cI cJ cK xf f1 f2 xn (nI fz) fn fs nf)) hP hD hS hA [2, 3, 4, 1] rfl [none, some 3, some 0, some 1, some 2] (by decide +kernel) (my_cV (As := [.ref xn, .int (nI a_1), .int (nI b_2)]) (rest := []) (ci := 6) (wc := (wl_k_X6_take cI cJ cK xf f1 f2 xn (nI fz) fn fs nf)) ⟨hx, hb, hml, hown, hts⟩ (cwV 3 hts gX8_below_X6_take rfl rfl rfl (by decide +kernel) ⟨Nat.le_of_ble_eq_true rfl, Nat.le_of_ble_eq_true rfl⟩) hN hK hP hD [2, 3, 4, 1] rfl (by decide) rfl 2 rfl rfl rfl rfl hl.1 rfl (Nat.le_of_ble_eq_true rfl) dX8_below_33 ⟨Nat.le_of_ble_eq_true rfl, Nat.le_of_ble_eq_true rfl⟩  ((k_X6_take l D cI cJ cK xf f1 f2 xn fz fn fs nf a_1 b_2 (by first | assumption | omega | decide +kernel) hR_nf (by first | assumption | omega | decide +kernel) (by first | assumption | omega | decide +kernel)) _)) (fun u H locs hp hPD hS => ?_)
          obtain ⟨fz_6, fn_7, fs_8, rfl, hhz_fz_9, hnd, hn8, hfz, hsv⟩ := hp
          obtain ⟨hP, hD⟩ := hPD rfl
          have hP : va_P D vwCl (wl_k_X8_below cI cJ cK x0 xn xl xt xo xf xs xp xq xr xc f1 f2 o1 (nI z) nf (nI fz_6) fn_7 fs_8 (nI oz) of) H := hP
          have hD : va_D A (wl_k_X8_below cI cJ cK x0 xn xl xt xo xf xs xp xq xr xc f1 f2 o1 (nI z) nf (nI fz_6) fn_7 fs_8 (nI oz) of) := hD
          refine lv_iload_n hx hb dX8_below_36 rfl (lv_at hl 3 rfl) ?_
          refine lv_iconst (v := 1) hx hb dX8_below_37 (by decide +kernel) ?_
          refine lv_isub hx hb dX8_below_38 ?_
          refine lv_topi (fun z_10 ez_10 => ?_)
          try have tz_10 : z_10.toInt = v9.toInt - (1 : Int) := by rw [ez_10]; exact my_subI rfl (by decide +kernel) (by omega) (by omega)
          refine lv_istore (lv' := [(4, .int z_10), (0, .ref x0), (1, .int (nI a_1)), (2, .int (nI b_2)), (3, .int v9)]) hx hb dX8_below_39 hl (by decide) rfl (fun ls hl => ?_)
          have loop41 : ∀ (n9 : Nat) (x : Int32), (x.toInt + 1).toNat < n9 → (-1 ≤ x.toInt) → (x.toInt ≤ 255) → (x.toInt < v9.toInt) → (∀ u : Nat, x.toInt < (u : Int) → (u : Int) < v9.toInt → (cnF nf a_1 b_2) u = 0) → ∀ (H : Heap) (locs : List Loc) (ls : Array Slot), va_P D vwCl (wl_k_X8_below cI cJ cK x0 xn xl xt xo xf xs xp xq xr xc f1 f2 o1 (nI z) nf (nI fz_6) fn_7 fs_8 (nI oz) of) H → va_D A (wl_k_X8_below cI cJ cK x0 xn xl xt xo xf xs xp xq xr xc f1 f2 o1 (nI z) nf (nI fz_6) fn_7 fs_8 (nI oz) of) → va_S A s.heap H locs → lv_has ls 5 [(4, .int x), (0, .ref x0), (1, .int (nI a_1)), (2, .int (nI b_2)), (3, .int v9)] → W p l e ({ frames := 4, cells := 0, slots := 0, locals := 240 } : Room) s m [.ref x0, .int (nI a_1), .int (nI b_2), .int v9].toArray below meth c H locs 0 0 (MQ below (va_Qi (fun (r : Int32) (u : va_W) => (u = (wl_k_X8_below cI cJ cK x0 xn xl xt xo xf xs xp xq xr xc f1 f2 o1 (nI z) nf (nI fz) fn fs (nI oz) of) ∧ r = (-1) ∧ ((nI a_1).toInt < 0 ∨ (nI b_2).toInt < (nI a_1).toInt ∨ z < (nI b_2).toInt ∨ v9.toInt < 1 ∨ 256 < v9.toInt)) ∨ (∃ (fz' : Nat) (fn' : Nat → Int32) (fs' : Nat → Int32) (oz' : Nat) (of' : Nat → Int64), u = (wl_k_X8_below cI cJ cK x0 xn xl xt xo xf xs xp xq xr xc f1 f2 o1 (nI z) nf (nI fz') fn' fs' (nI oz') of') ∧ r = (-2) ∧ fz' ≤ 64 ∧ oz' ≤ 64 ∧ 0 ≤ (nI a_1).toInt ∧ (nI a_1).toInt ≤ (nI b_2).toInt ∧ (nI b_2).toInt ≤ z ∧ blN (cnF nf (nI a_1).toInt.toNat (nI b_2).toInt.toNat) v9.toInt ∧ 1 ≤ v9.toInt ∧ v9.toInt ≤ 256 ∧ oz' = oz) ∨ (∃ (fz' : Nat) (fn' : Nat → Int32) (fs' : Nat → Int32) (oz' : Nat) (of' : Nat → Int64), u = (wl_k_X8_below cI cJ cK x0 xn xl xt xo xf xs xp xq xr xc f1 f2 o1 (nI z) nf (nI fz') fn' fs' (nI oz') of') ∧ fz' ≤ 64 ∧ oz' ≤ 64 ∧ 0 ≤ (nI a_1).toInt ∧ (nI a_1).toInt ≤ (nI b_2).toInt ∧ (nI b_2).toInt ≤ z ∧ blP (cnF nf (nI a_1).toInt.toNat (nI b_2).toInt.toNat) v9.toInt r ∧ 1 ≤ v9.toInt ∧ v9.toInt ≤ 256 ∧ oz' = 1)) (my_B D (tyIJ cI cJ cK) A) A) [.ref x0, .int (nI a_1), .int (nI b_2), .int v9].toArray s 0 0 A) (F0 m 41 ls []) := by
            intro n9
            induction n9 with
            | zero =>
              intro x hn9
              exact absurd hn9 (Nat.not_lt_zero _)
            | succ n9 ih41 =>
              intro x hn9 hx0 hx1 hxv hbl9 H locs ls hP hD hS hl
              refine lv_iload hx hb dX8_below_41 (lv_at hl 0 rfl) ?_
              refine lv_if_lt (tgt := 81) hx hb dX8_below_43 (by decide) (fun c43 => ?_) (fun c43 => ?_)
              ·
                have d43 : x.toInt < (0 : Int) := my_lt c43 rfl (by decide +kernel)
                refine lv_bipush (v := (-2)) hx hb dX8_below_81 (by decide +kernel) ?_
                have hsI_l9 : (nI a_1).toInt = ((a_1 : Nat) : Int) := nI_toInt (by omega)
                have hsN_l9 : (nI a_1).toInt.toNat = a_1 := nIt (by omega)
                have hsI_r9 : (nI b_2).toInt = ((b_2 : Nat) : Int) := nI_toInt (by omega)
                have hsN_r9 : (nI b_2).toInt.toNat = b_2 := nIt (by omega)
                exact my_retI hx hb hr hlocks hK hS (wl_k_X8_below cI cJ cK x0 xn xl xt xo xf xs xp xq xr xc f1 f2 o1 (nI z) nf (nI fz_6) fn_7 fs_8 (nI oz) of) hP hD (Or.inr (Or.inl ⟨fz_6, fn_7, fs_8, oz, of, rfl, rfl, (by first | assumption | omega | trivial | decide +kernel), (by first | assumption | omega | trivial | decide +kernel), (by first | assumption | omega | trivial | decide +kernel), (by first | assumption | omega | trivial | decide +kernel), (by first | assumption | omega | trivial | decide +kernel), (by rw [hsN_l9, hsN_r9]; exact bl_nmk (by omega) hbl9), (by first | assumption | omega | trivial | decide +kernel), (by first | assumption | omega | trivial | decide +kernel), (by first | assumption | omega | trivial | decide +kernel)⟩)) dX8_below_83
              ·
                have d43 : x.toInt ≥ (0 : Int) := my_nlt c43 rfl (by decide +kernel)
                refine lv_aload_n hx hb dX8_below_46 rfl (lv_at hl 1 rfl) ?_
                refine va_get (ci := 8) (v := .ref xf) (C := RX8) (T := TX8) (N := 11) hx hb hts hi8 hown hK hP 0 rfl rfl 5 (by decide) fl41 (fun _ h9 => h9) rfl dX8_below_47 ?_
                refine lv_iload hx hb dX8_below_50 (lv_at hl 0 rfl) ?_
                obtain ⟨w_11, ew_11, hw_11⟩ : ∃ w : Nat, x = nI w ∧ (w : Int) = (x : Int32).toInt := my_natE (by omega)
                refine my_eqi (y := nI w_11) ew_11 ?_
                refine my_gpI (my_pV (As := [.int (nI w_11)]) (rest := []) (ci := 6) ⟨hx, hb, hml, hown, hts⟩ (cwV 1 hts gX8_below_X6_timesOf rfl rfl rfl (by decide +kernel) ⟨Nat.le_of_ble_eq_true rfl, Nat.le_of_ble_eq_true rfl⟩) hN hK hP [2, 3] rfl 2 rfl rfl rfl rfl hl.1 rfl (Nat.le_of_ble_eq_true rfl) dX8_below_52 ⟨Nat.le_of_ble_eq_true rfl, Nat.le_of_ble_eq_true rfl⟩  (kt_X6_timesOf l D cI cJ cK xf f1 f2 fz_6 fn_7 w_11 (cnF nf a_1 b_2) (by first | assumption | omega | decide +kernel) (by first | assumption | omega | decide +kernel) (hn8) (cnF_64 (by omega)))) (fun r hp => ?_)
                obtain ⟨t_12, rfl, htm, hq_13⟩ := hp
                refine lv_if_le (tgt := 75) hx hb dX8_below_55 (by decide) (fun c55 => ?_) (fun c55 => ?_)
                ·
                  have d55 : ((t_12 : Nat) : Int) ≤ (0 : Int) := my_le c55 (nI_toInt (by omega)) (by decide +kernel)
                  obtain ⟨z_14, ez_14⟩ : ∃ y : Int32, y = x + (-1) := ⟨_, rfl⟩
                  try have tz_14 : z_14.toInt = x.toInt + (-1) := by rw [ez_14]; exact my_addI rfl (by decide +kernel) (by omega) (by omega)
                  refine lv_iinc (v := z_14) (lv' := [(4, .int z_14), (0, .ref x0), (1, .int (nI a_1)), (2, .int (nI b_2)), (3, .int v9)]) hx hb dX8_below_75 hl (k := 0) rfl (by rw [ez_14]; rfl) (by decide) rfl (fun ls hl => ?_)
                  refine lv_goto (tgt := 41) hx hb dX8_below_78 (by decide) ?_
                  exact ih41  z_14 (by omega) (by first | assumption | omega | decide +kernel) (by first | assumption | omega | decide +kernel) (by first | assumption | omega | decide +kernel) (bl_back hbl9 (by assumption) htm (by omega) (by omega)) _ _ ls hP hD hS (lv_sub hl [0, 1, 2, 3, 4] rfl)
                ·
                  have d55 : ((t_12 : Nat) : Int) > (0 : Int) := my_nle c55 (nI_toInt (by omega)) (by decide +kernel)
                  have hfd := bl_ne (x := x.toInt) (by assumption) htm (by omega)
                  refine lv_aload_n hx hb dX8_below_58 rfl (lv_at hl 1 rfl) ?_
                  refine lv_aload_n hx hb dX8_below_59 rfl (lv_at hl 1 rfl) ?_
                  refine va_get (ci := 8) (v := .ref xf) (C := RX8) (T := TX8) (N := 11) hx hb hts hi8 hown hK hP 0 rfl rfl 5 (by decide) fl41 (fun _ h9 => h9) rfl dX8_below_60 ?_
                  refine lv_iload hx hb dX8_below_63 (lv_at hl 0 rfl) ?_
                  obtain ⟨w_15, ew_15, hw_15⟩ : ∃ w : Nat, x = nI w ∧ (w : Int) = (x : Int32).toInt := my_natE (by omega)
                  refine my_eqi (y := nI w_15) ew_15 ?_
                  refine my_gpI (my_pV (As := [.int (nI w_15)]) (rest := [.ref x0]) (ci := 6) ⟨hx, hb, hml, hown, hts⟩ (cwV 1 hts gX8_below_X6_timesOf rfl rfl rfl (by decide +kernel) ⟨Nat.le_of_ble_eq_true rfl, Nat.le_of_ble_eq_true rfl⟩) hN hK hP [2, 3] rfl 2 rfl rfl rfl rfl hl.1 rfl (Nat.le_of_ble_eq_true rfl) dX8_below_65 ⟨Nat.le_of_ble_eq_true rfl, Nat.le_of_ble_eq_true rfl⟩  (kt_X6_timesOf l D cI cJ cK xf f1 f2 fz_6 fn_7 w_15 (cnF nf a_1 b_2) (by first | assumption | omega | decide +kernel) (by first | assumption | omega | decide +kernel) (hn8) (cnF_64 (by omega)))) (fun r hp => ?_)
                  obtain ⟨t_16, rfl, htm, hq_17⟩ := hp
                  refine lv_i2l (v := lN t_16) hx hb dX8_below_68 (nI_l (by omega)) ?_
                  refine my_goVS (wc := (wl_k_X8_tell cI cJ cK x0 xn xl xt xo xf xs xp xq xr xc o1 (nI z) (nI oz) of)) hP hD hS hA [0, 5, 6] rfl [some 0, none, none, none, none, some 1, some 2] (by decide +kernel) (my_cV (As := [.long (lN t_16)]) (rest := []) (ci := 8) (wc := (wl_k_X8_tell cI cJ cK x0 xn xl xt xo xf xs xp xq xr xc o1 (nI z) (nI oz) of)) ⟨hx, hb, hml, hown, hts⟩ (cwV 1 hts gX8_below_X8_tell rfl rfl rfl (by decide +kernel) ⟨Nat.le_of_ble_eq_true rfl, Nat.le_of_ble_eq_true rfl⟩) hN hK hP hD [0, 5, 6] rfl (by decide) rfl 0 rfl rfl rfl rfl hl.1 rfl (Nat.le_of_ble_eq_true rfl) dX8_below_69 ⟨Nat.le_of_ble_eq_true rfl, Nat.le_of_ble_eq_true rfl⟩  ((k_X8_tell l D cI cJ cK x0 xn xl xt xo xf xs xp xq xr xc o1 z oz of (lN t_16) (by first | assumption | omega | decide +kernel) (by first | assumption | omega | decide +kernel)) _)) (fun u H locs hp hPD hS => ?_)
                  obtain ⟨of_18, rfl, hv0, ht_19⟩ := hp
                  obtain ⟨hP, hD⟩ := hPD rfl
                  have hP : va_P D vwCl (wl_k_X8_below cI cJ cK x0 xn xl xt xo xf xs xp xq xr xc f1 f2 o1 (nI z) nf (nI fz_6) fn_7 fs_8 1 of_18) H := hP
                  have hD : va_D A (wl_k_X8_below cI cJ cK x0 xn xl xt xo xf xs xp xq xr xc f1 f2 o1 (nI z) nf (nI fz_6) fn_7 fs_8 1 of_18) := hD
                  refine lv_iload hx hb dX8_below_72 (lv_at hl 0 rfl) ?_
                  have hsI_l9 : (nI a_1).toInt = ((a_1 : Nat) : Int) := nI_toInt (by omega)
                  have hsN_l9 : (nI a_1).toInt.toNat = a_1 := nIt (by omega)
                  have hsI_r9 : (nI b_2).toInt = ((b_2 : Nat) : Int) := nI_toInt (by omega)
                  have hsN_r9 : (nI b_2).toInt.toNat = b_2 := nIt (by omega)
                  exact my_retI hx hb hr hlocks hK hS (wl_k_X8_below cI cJ cK x0 xn xl xt xo xf xs xp xq xr xc f1 f2 o1 (nI z) nf (nI fz_6) fn_7 fs_8 1 of_18) hP hD (Or.inr (Or.inr (⟨fz_6, fn_7, fs_8, 1, of_18, rfl, (by first | assumption | omega | trivial | decide +kernel), (by first | assumption | omega | trivial | decide +kernel), (by first | assumption | omega | trivial | decide +kernel), (by first | assumption | omega | trivial | decide +kernel), (by first | assumption | omega | trivial | decide +kernel), (by rw [hsN_l9, hsN_r9]; exact bl_mk (by omega) (by omega) hfd hbl9), (by first | assumption | omega | trivial | decide +kernel), (by first | assumption | omega | trivial | decide +kernel), (by first | assumption | omega | trivial | decide +kernel)⟩))) dX8_below_74
          exact loop41 (((z_10.toInt + 1).toNat) + 1) z_10 (Nat.lt_succ_self _) (by first | assumption | omega | decide +kernel) (by first | assumption | omega | decide +kernel) (by first | assumption | omega | decide +kernel) (fun u h1 h2 => absurd h1 (by omega)) _ _ ls hP hD hS (lv_sub hl [0, 1, 2, 3, 4] rfl)
        ·
          have d18 : v9.toInt > (256 : Int) := my_nle c18 rfl (by decide +kernel)
          refine lv_iconst (v := (-1)) hx hb dX8_below_21 (by decide +kernel) ?_
          have hsI_l9 : (nI a_1).toInt = ((a_1 : Nat) : Int) := nI_toInt (by omega)
          have hsN_l9 : (nI a_1).toInt.toNat = a_1 := nIt (by omega)
          have hsI_r9 : (nI b_2).toInt = ((b_2 : Nat) : Int) := nI_toInt (by omega)
          have hsN_r9 : (nI b_2).toInt.toNat = b_2 := nIt (by omega)
          exact my_retI hx hb hr hlocks hK hS (wl_k_X8_below cI cJ cK x0 xn xl xt xo xf xs xp xq xr xc f1 f2 o1 (nI z) nf (nI fz) fn fs (nI oz) of) hP hD (Or.inl ⟨rfl, rfl, (by first | assumption | omega | trivial | decide +kernel)⟩) dX8_below_22
  ·
    refine lv_if_eq (tgt := 21) hx hb dX8_below_6 (by decide) (fun c6 => ?_) (fun c6 => ?_)
    ·
      refine lv_iconst (v := (-1)) hx hb dX8_below_21 (by decide +kernel) ?_
      exact my_retI hx hb hr hlocks hK hS (wl_k_X8_below cI cJ cK x0 xn xl xt xo xf xs xp xq xr xc f1 f2 o1 (nI z) nf (nI fz) fn fs (nI oz) of) hP hD (Or.inl ⟨rfl, rfl, (by first | assumption | omega | trivial | decide +kernel)⟩) dX8_below_22
    ·
      exact absurd c6 (by decide +kernel)
abbrev wl_k_X8_above (cI cJ cK : ClassId) (x0 : Nat) (xn : Nat) (xl : Nat) (xt : Nat) (xo : Nat) (xf : Nat) (xs : Nat) (xp : Nat) (xq : Nat) (xr : Nat) (xc : Nat) (f1 : Nat) (f2 : Nat) (o1 : Nat) (v0_ : Int32) (v1_ : Nat → Int32) (v2_ : Int32) (v3_ : Nat → Int32) (v4_ : Nat → Int32) (v5_ : Int32) (v6_ : Nat → Int64) : va_W := [(x0, .inr (8, [.ref xn, .int v0_, .ref xl, .ref xt, .ref xo, .ref xf, .ref xs, .ref xp, .ref xq, .ref xr, .ref xc])), (xn, .inl (cI, 64, .inl v1_)), (xf, .inr (6, [.ref f1, .ref f2, .int v2_])), (f1, .inl (cI, 512, .inl v3_)), (f2, .inl (cI, 64, .inl v4_)), (xo, .inr (7, [.ref o1, .int v5_])), (o1, .inl (cJ, 64, .inr (.inl v6_)))]
set_option maxHeartbeats 4000000 in
set_option maxRecDepth 100000 in
theorem k_X8_above (l : Launch) (D : va_G) (cI cJ cK : ClassId) (x0 : Nat) (xn : Nat) (xl : Nat) (xt : Nat) (xo : Nat) (xf : Nat) (xs : Nat) (xp : Nat) (xq : Nat) (xr : Nat) (xc : Nat) (f1 : Nat) (f2 : Nat) (o1 : Nat) (z : Nat) (nf : Nat → Int32) (fz : Nat) (fn : Nat → Int32) (fs : Nat → Int32) (oz : Nat) (of : Nat → Int64) (l9 : Int32) (r9 : Int32) (v9 : Int32) (hz_z : z ≤ 64) (hR_nf : RB 0 255 nf) (hz_fz : fz ≤ 64) (hz_oz : oz ≤ 64) : ctI l yX8_above wsX8_above ({ frames := 4, cells := 0, slots := 0, locals := 240 } : Room) D (tyIJ cI cJ cK) [.ref x0, .int l9, .int r9, .int v9] (wl_k_X8_above cI cJ cK x0 xn xl xt xo xf xs xp xq xr xc f1 f2 o1 (nI z) nf (nI fz) fn fs (nI oz) of) (fun (r : Int32) (u : va_W) => (u = (wl_k_X8_above cI cJ cK x0 xn xl xt xo xf xs xp xq xr xc f1 f2 o1 (nI z) nf (nI fz) fn fs (nI oz) of) ∧ r = (-1) ∧ (l9.toInt < 0 ∨ r9.toInt < l9.toInt ∨ z < r9.toInt ∨ v9.toInt < -1 ∨ 254 < v9.toInt)) ∨ (∃ (fz' : Nat) (fn' : Nat → Int32) (fs' : Nat → Int32) (oz' : Nat) (of' : Nat → Int64), u = (wl_k_X8_above cI cJ cK x0 xn xl xt xo xf xs xp xq xr xc f1 f2 o1 (nI z) nf (nI fz') fn' fs' (nI oz') of') ∧ r = (-2) ∧ fz' ≤ 64 ∧ oz' ≤ 64 ∧ 0 ≤ l9.toInt ∧ l9.toInt ≤ r9.toInt ∧ r9.toInt ≤ z ∧ abN (cnF nf l9.toInt.toNat r9.toInt.toNat) v9.toInt ∧ -1 ≤ v9.toInt ∧ v9.toInt ≤ 254 ∧ oz' = oz) ∨ (∃ (fz' : Nat) (fn' : Nat → Int32) (fs' : Nat → Int32) (oz' : Nat) (of' : Nat → Int64), u = (wl_k_X8_above cI cJ cK x0 xn xl xt xo xf xs xp xq xr xc f1 f2 o1 (nI z) nf (nI fz') fn' fs' (nI oz') of') ∧ fz' ≤ 64 ∧ oz' ≤ 64 ∧ 0 ≤ l9.toInt ∧ l9.toInt ≤ r9.toInt ∧ r9.toInt ≤ z ∧ abP (cnF nf l9.toInt.toNat r9.toInt.toNat) v9.toInt r ∧ -1 ≤ v9.toInt ∧ v9.toInt ≤ 254 ∧ oz' = 1)) := by
  refine ctI.of (cc := cX8_above) (maxL := 5) (ret := (some .int)) (by decide) rfl (Nat.le_of_ble_eq_true rfl) ?_
  intro p e s m below meth c ls A hx hb hr hts hown hml hlocks hname hA hK hN hP hD hS hl
  have hl : lv_has ls 5 [(0, .ref x0), (1, .int l9), (2, .int r9), (3, .int v9)] := hl
  have hown : s.vm.findClass RX8 = some m.cls := hown
  have hi8 : ∀ w ∈ u_ws RX8 TX8 11, w ∈ wsX8_above := by decide +kernel
  have fl41 := hts (.fieldLink RX8 41 "PlaneColumn" "first" "LPlaneColumn$Tally;") (by decide +kernel)
  have fl9 := hts (.fieldLink RX8 9 "PlaneColumn" "numbers" "[I") (by decide +kernel)
  refine lv_aload_n hx hb dX8_above_0 rfl (lv_at hl 0 rfl) ?_
  refine lv_iload_n hx hb dX8_above_1 rfl (lv_at hl 1 rfl) ?_
  refine lv_iload_n hx hb dX8_above_2 rfl (lv_at hl 2 rfl) ?_
  refine my_gpI (my_pV (As := [.int l9, .int r9]) (rest := []) (ci := 8) ⟨hx, hb, hml, hown, hts⟩ (cwV 2 hts gX8_above_X8_isSpan rfl rfl rfl (by decide +kernel) ⟨Nat.le_of_ble_eq_true rfl, Nat.le_of_ble_eq_true rfl⟩) hN hK hP [0] rfl 0 rfl rfl rfl rfl hl.1 rfl (Nat.le_of_ble_eq_true rfl) dX8_above_3 ⟨Nat.le_of_ble_eq_true rfl, Nat.le_of_ble_eq_true rfl⟩  (k_X8_isSpan l D cI cJ cK x0 xn xl xt xo xf xs xp xq xr xc z l9 r9 (by first | assumption | omega | decide +kernel))) (fun r hp => ?_)
  rcases hp with ⟨a_1, b_2, rfl, rfl, rfl, ha_3, hb_4⟩ | ⟨rfl, ho_5⟩
  ·
    refine lv_if_eq (tgt := 21) hx hb dX8_above_6 (by decide) (fun c6 => ?_) (fun c6 => ?_)
    ·
      exact absurd c6 (by decide +kernel)
    ·
      refine lv_iload_n hx hb dX8_above_9 rfl (lv_at hl 3 rfl) ?_
      refine lv_iconst (v := (-1)) hx hb dX8_above_10 (by decide +kernel) ?_
      refine lv_icmp_lt (tgt := 21) hx hb dX8_above_11 (by decide) (fun c11 => ?_) (fun c11 => ?_)
      ·
        have d11 : v9.toInt < (-1 : Int) := my_lt c11 rfl (by decide +kernel)
        refine lv_iconst (v := (-1)) hx hb dX8_above_21 (by decide +kernel) ?_
        have hsI_l9 : (nI a_1).toInt = ((a_1 : Nat) : Int) := nI_toInt (by omega)
        have hsN_l9 : (nI a_1).toInt.toNat = a_1 := nIt (by omega)
        have hsI_r9 : (nI b_2).toInt = ((b_2 : Nat) : Int) := nI_toInt (by omega)
        have hsN_r9 : (nI b_2).toInt.toNat = b_2 := nIt (by omega)
        exact my_retI hx hb hr hlocks hK hS (wl_k_X8_above cI cJ cK x0 xn xl xt xo xf xs xp xq xr xc f1 f2 o1 (nI z) nf (nI fz) fn fs (nI oz) of) hP hD (Or.inl ⟨rfl, rfl, (by first | assumption | omega | trivial | decide +kernel)⟩) dX8_above_22
      ·
        have d11 : v9.toInt ≥ (-1 : Int) := my_nlt c11 rfl (by decide +kernel)
        refine lv_iload_n hx hb dX8_above_14 rfl (lv_at hl 3 rfl) ?_
        refine lv_sipush (v := 254) hx hb dX8_above_15 (by decide +kernel) ?_
        refine lv_icmp_le (tgt := 23) hx hb dX8_above_18 (by decide) (fun c18 => ?_) (fun c18 => ?_)
        ·
          have d18 : v9.toInt ≤ (254 : Int) := my_le c18 rfl (by decide +kernel)
          refine lv_aload_n hx hb dX8_above_23 rfl (lv_at hl 0 rfl) ?_
          refine va_get (ci := 8) (v := .ref xf) (C := RX8) (T := TX8) (N := 11) hx hb hts hi8 hown hK hP 0 rfl rfl 5 (by decide) fl41 (fun _ h9 => h9) rfl dX8_above_24 ?_
          refine lv_aload_n hx hb dX8_above_27 rfl (lv_at hl 0 rfl) ?_
          refine va_get (ci := 8) (v := .ref xn) (C := RX8) (T := TX8) (N := 11) hx hb hts hi8 hown hK hP 0 rfl rfl 0 (by decide) fl9 (fun _ h9 => h9) rfl dX8_above_28 ?_
          refine lv_iload_n hx hb dX8_above_31 rfl (lv_at hl 1 rfl) ?_
          refine lv_iload_n hx hb dX8_above_32 rfl (lv_at hl 2 rfl) ?_
          refine my_goVS (wc := (wl_k_X6_take cI cJ cK xf f1 f2 xn (nI fz) fn fs nf)) hP hD hS hA [2, 3, 4, 1] rfl [none, some 3, some 0, some 1, some 2] (by decide +kernel) (my_cV (As := [.ref xn, .int (nI a_1), .int (nI b_2)]) (rest := []) (ci := 6) (wc := (wl_k_X6_take cI cJ cK xf f1 f2 xn (nI fz) fn fs nf)) ⟨hx, hb, hml, hown, hts⟩ (cwV 3 hts gX8_above_X6_take rfl rfl rfl (by decide +kernel) ⟨Nat.le_of_ble_eq_true rfl, Nat.le_of_ble_eq_true rfl⟩) hN hK hP hD [2, 3, 4, 1] rfl (by decide) rfl 2 rfl rfl rfl rfl hl.1 rfl (Nat.le_of_ble_eq_true rfl) dX8_above_33 ⟨Nat.le_of_ble_eq_true rfl, Nat.le_of_ble_eq_true rfl⟩  ((k_X6_take l D cI cJ cK xf f1 f2 xn fz fn fs nf a_1 b_2 (by first | assumption | omega | decide +kernel) hR_nf (by first | assumption | omega | decide +kernel) (by first | assumption | omega | decide +kernel)) _)) (fun u H locs hp hPD hS => ?_)
          obtain ⟨fz_6, fn_7, fs_8, rfl, hhz_fz_9, hnd, hn8, hfz, hsv⟩ := hp
          obtain ⟨hP, hD⟩ := hPD rfl
          have hP : va_P D vwCl (wl_k_X8_above cI cJ cK x0 xn xl xt xo xf xs xp xq xr xc f1 f2 o1 (nI z) nf (nI fz_6) fn_7 fs_8 (nI oz) of) H := hP
          have hD : va_D A (wl_k_X8_above cI cJ cK x0 xn xl xt xo xf xs xp xq xr xc f1 f2 o1 (nI z) nf (nI fz_6) fn_7 fs_8 (nI oz) of) := hD
          refine lv_iload_n hx hb dX8_above_36 rfl (lv_at hl 3 rfl) ?_
          refine lv_iconst (v := 1) hx hb dX8_above_37 (by decide +kernel) ?_
          refine lv_iadd hx hb dX8_above_38 ?_
          refine lv_topi (fun z_10 ez_10 => ?_)
          try have tz_10 : z_10.toInt = v9.toInt + (1 : Int) := by rw [ez_10]; exact my_addI rfl (by decide +kernel) (by omega) (by omega)
          refine lv_istore (lv' := [(4, .int z_10), (0, .ref x0), (1, .int (nI a_1)), (2, .int (nI b_2)), (3, .int v9)]) hx hb dX8_above_39 hl (by decide) rfl (fun ls hl => ?_)
          have loop41 : ∀ (n9 : Nat) (x : Int32), (256 - x.toInt).toNat < n9 → (0 ≤ x.toInt) → (x.toInt ≤ 256) → (v9.toInt < x.toInt) → (∀ u : Nat, v9.toInt < (u : Int) → (u : Int) < x.toInt → (cnF nf a_1 b_2) u = 0) → ∀ (H : Heap) (locs : List Loc) (ls : Array Slot), va_P D vwCl (wl_k_X8_above cI cJ cK x0 xn xl xt xo xf xs xp xq xr xc f1 f2 o1 (nI z) nf (nI fz_6) fn_7 fs_8 (nI oz) of) H → va_D A (wl_k_X8_above cI cJ cK x0 xn xl xt xo xf xs xp xq xr xc f1 f2 o1 (nI z) nf (nI fz_6) fn_7 fs_8 (nI oz) of) → va_S A s.heap H locs → lv_has ls 5 [(4, .int x), (0, .ref x0), (1, .int (nI a_1)), (2, .int (nI b_2)), (3, .int v9)] → W p l e ({ frames := 4, cells := 0, slots := 0, locals := 240 } : Room) s m [.ref x0, .int (nI a_1), .int (nI b_2), .int v9].toArray below meth c H locs 0 0 (MQ below (va_Qi (fun (r : Int32) (u : va_W) => (u = (wl_k_X8_above cI cJ cK x0 xn xl xt xo xf xs xp xq xr xc f1 f2 o1 (nI z) nf (nI fz) fn fs (nI oz) of) ∧ r = (-1) ∧ ((nI a_1).toInt < 0 ∨ (nI b_2).toInt < (nI a_1).toInt ∨ z < (nI b_2).toInt ∨ v9.toInt < -1 ∨ 254 < v9.toInt)) ∨ (∃ (fz' : Nat) (fn' : Nat → Int32) (fs' : Nat → Int32) (oz' : Nat) (of' : Nat → Int64), u = (wl_k_X8_above cI cJ cK x0 xn xl xt xo xf xs xp xq xr xc f1 f2 o1 (nI z) nf (nI fz') fn' fs' (nI oz') of') ∧ r = (-2) ∧ fz' ≤ 64 ∧ oz' ≤ 64 ∧ 0 ≤ (nI a_1).toInt ∧ (nI a_1).toInt ≤ (nI b_2).toInt ∧ (nI b_2).toInt ≤ z ∧ abN (cnF nf (nI a_1).toInt.toNat (nI b_2).toInt.toNat) v9.toInt ∧ -1 ≤ v9.toInt ∧ v9.toInt ≤ 254 ∧ oz' = oz) ∨ (∃ (fz' : Nat) (fn' : Nat → Int32) (fs' : Nat → Int32) (oz' : Nat) (of' : Nat → Int64), u = (wl_k_X8_above cI cJ cK x0 xn xl xt xo xf xs xp xq xr xc f1 f2 o1 (nI z) nf (nI fz') fn' fs' (nI oz') of') ∧ fz' ≤ 64 ∧ oz' ≤ 64 ∧ 0 ≤ (nI a_1).toInt ∧ (nI a_1).toInt ≤ (nI b_2).toInt ∧ (nI b_2).toInt ≤ z ∧ abP (cnF nf (nI a_1).toInt.toNat (nI b_2).toInt.toNat) v9.toInt r ∧ -1 ≤ v9.toInt ∧ v9.toInt ≤ 254 ∧ oz' = 1)) (my_B D (tyIJ cI cJ cK) A) A) [.ref x0, .int (nI a_1), .int (nI b_2), .int v9].toArray s 0 0 A) (F0 m 41 ls []) := by
            intro n9
            induction n9 with
            | zero =>
              intro x hn9
              exact absurd hn9 (Nat.not_lt_zero _)
            | succ n9 ih41 =>
              intro x hn9 hx0 hx1 hxv hbl9 H locs ls hP hD hS hl
              refine lv_iload hx hb dX8_above_41 (lv_at hl 0 rfl) ?_
              refine lv_sipush (v := 255) hx hb dX8_above_43 (by decide +kernel) ?_
              refine lv_icmp_gt (tgt := 84) hx hb dX8_above_46 (by decide) (fun c46 => ?_) (fun c46 => ?_)
              ·
                have d46 : x.toInt > (255 : Int) := my_gt c46 rfl (by decide +kernel)
                refine lv_bipush (v := (-2)) hx hb dX8_above_84 (by decide +kernel) ?_
                have hsI_l9 : (nI a_1).toInt = ((a_1 : Nat) : Int) := nI_toInt (by omega)
                have hsN_l9 : (nI a_1).toInt.toNat = a_1 := nIt (by omega)
                have hsI_r9 : (nI b_2).toInt = ((b_2 : Nat) : Int) := nI_toInt (by omega)
                have hsN_r9 : (nI b_2).toInt.toNat = b_2 := nIt (by omega)
                exact my_retI hx hb hr hlocks hK hS (wl_k_X8_above cI cJ cK x0 xn xl xt xo xf xs xp xq xr xc f1 f2 o1 (nI z) nf (nI fz_6) fn_7 fs_8 (nI oz) of) hP hD (Or.inr (Or.inl ⟨fz_6, fn_7, fs_8, oz, of, rfl, rfl, (by first | assumption | omega | trivial | decide +kernel), (by first | assumption | omega | trivial | decide +kernel), (by first | assumption | omega | trivial | decide +kernel), (by first | assumption | omega | trivial | decide +kernel), (by first | assumption | omega | trivial | decide +kernel), (by rw [hsN_l9, hsN_r9]; exact ab_nmk (by omega) hbl9), (by first | assumption | omega | trivial | decide +kernel), (by first | assumption | omega | trivial | decide +kernel), (by first | assumption | omega | trivial | decide +kernel)⟩)) dX8_above_86
              ·
                have d46 : x.toInt ≤ (255 : Int) := my_ngt c46 rfl (by decide +kernel)
                refine lv_aload_n hx hb dX8_above_49 rfl (lv_at hl 1 rfl) ?_
                refine va_get (ci := 8) (v := .ref xf) (C := RX8) (T := TX8) (N := 11) hx hb hts hi8 hown hK hP 0 rfl rfl 5 (by decide) fl41 (fun _ h9 => h9) rfl dX8_above_50 ?_
                refine lv_iload hx hb dX8_above_53 (lv_at hl 0 rfl) ?_
                obtain ⟨w_11, ew_11, hw_11⟩ : ∃ w : Nat, x = nI w ∧ (w : Int) = (x : Int32).toInt := my_natE (by omega)
                refine my_eqi (y := nI w_11) ew_11 ?_
                refine my_gpI (my_pV (As := [.int (nI w_11)]) (rest := []) (ci := 6) ⟨hx, hb, hml, hown, hts⟩ (cwV 1 hts gX8_above_X6_timesOf rfl rfl rfl (by decide +kernel) ⟨Nat.le_of_ble_eq_true rfl, Nat.le_of_ble_eq_true rfl⟩) hN hK hP [2, 3] rfl 2 rfl rfl rfl rfl hl.1 rfl (Nat.le_of_ble_eq_true rfl) dX8_above_55 ⟨Nat.le_of_ble_eq_true rfl, Nat.le_of_ble_eq_true rfl⟩  (kt_X6_timesOf l D cI cJ cK xf f1 f2 fz_6 fn_7 w_11 (cnF nf a_1 b_2) (by first | assumption | omega | decide +kernel) (by first | assumption | omega | decide +kernel) (hn8) (cnF_64 (by omega)))) (fun r hp => ?_)
                obtain ⟨t_12, rfl, htm, hq_13⟩ := hp
                refine lv_if_le (tgt := 78) hx hb dX8_above_58 (by decide) (fun c58 => ?_) (fun c58 => ?_)
                ·
                  have d58 : ((t_12 : Nat) : Int) ≤ (0 : Int) := my_le c58 (nI_toInt (by omega)) (by decide +kernel)
                  obtain ⟨z_14, ez_14⟩ : ∃ y : Int32, y = x + (1) := ⟨_, rfl⟩
                  try have tz_14 : z_14.toInt = x.toInt + (1) := by rw [ez_14]; exact my_addI rfl (by decide +kernel) (by omega) (by omega)
                  refine lv_iinc (v := z_14) (lv' := [(4, .int z_14), (0, .ref x0), (1, .int (nI a_1)), (2, .int (nI b_2)), (3, .int v9)]) hx hb dX8_above_78 hl (k := 0) rfl (by rw [ez_14]; rfl) (by decide) rfl (fun ls hl => ?_)
                  refine lv_goto (tgt := 41) hx hb dX8_above_81 (by decide) ?_
                  exact ih41  z_14 (by omega) (by first | assumption | omega | decide +kernel) (by first | assumption | omega | decide +kernel) (by first | assumption | omega | decide +kernel) (ab_back hbl9 (by assumption) htm (by omega) (by omega)) _ _ ls hP hD hS (lv_sub hl [0, 1, 2, 3, 4] rfl)
                ·
                  have d58 : ((t_12 : Nat) : Int) > (0 : Int) := my_nle c58 (nI_toInt (by omega)) (by decide +kernel)
                  have hfd := bl_ne (x := x.toInt) (by assumption) htm (by omega)
                  refine lv_aload_n hx hb dX8_above_61 rfl (lv_at hl 1 rfl) ?_
                  refine lv_aload_n hx hb dX8_above_62 rfl (lv_at hl 1 rfl) ?_
                  refine va_get (ci := 8) (v := .ref xf) (C := RX8) (T := TX8) (N := 11) hx hb hts hi8 hown hK hP 0 rfl rfl 5 (by decide) fl41 (fun _ h9 => h9) rfl dX8_above_63 ?_
                  refine lv_iload hx hb dX8_above_66 (lv_at hl 0 rfl) ?_
                  obtain ⟨w_15, ew_15, hw_15⟩ : ∃ w : Nat, x = nI w ∧ (w : Int) = (x : Int32).toInt := my_natE (by omega)
                  refine my_eqi (y := nI w_15) ew_15 ?_
                  refine my_gpI (my_pV (As := [.int (nI w_15)]) (rest := [.ref x0]) (ci := 6) ⟨hx, hb, hml, hown, hts⟩ (cwV 1 hts gX8_above_X6_timesOf rfl rfl rfl (by decide +kernel) ⟨Nat.le_of_ble_eq_true rfl, Nat.le_of_ble_eq_true rfl⟩) hN hK hP [2, 3] rfl 2 rfl rfl rfl rfl hl.1 rfl (Nat.le_of_ble_eq_true rfl) dX8_above_68 ⟨Nat.le_of_ble_eq_true rfl, Nat.le_of_ble_eq_true rfl⟩  (kt_X6_timesOf l D cI cJ cK xf f1 f2 fz_6 fn_7 w_15 (cnF nf a_1 b_2) (by first | assumption | omega | decide +kernel) (by first | assumption | omega | decide +kernel) (hn8) (cnF_64 (by omega)))) (fun r hp => ?_)
                  obtain ⟨t_16, rfl, htm, hq_17⟩ := hp
                  refine lv_i2l (v := lN t_16) hx hb dX8_above_71 (nI_l (by omega)) ?_
                  refine my_goVS (wc := (wl_k_X8_tell cI cJ cK x0 xn xl xt xo xf xs xp xq xr xc o1 (nI z) (nI oz) of)) hP hD hS hA [0, 5, 6] rfl [some 0, none, none, none, none, some 1, some 2] (by decide +kernel) (my_cV (As := [.long (lN t_16)]) (rest := []) (ci := 8) (wc := (wl_k_X8_tell cI cJ cK x0 xn xl xt xo xf xs xp xq xr xc o1 (nI z) (nI oz) of)) ⟨hx, hb, hml, hown, hts⟩ (cwV 1 hts gX8_above_X8_tell rfl rfl rfl (by decide +kernel) ⟨Nat.le_of_ble_eq_true rfl, Nat.le_of_ble_eq_true rfl⟩) hN hK hP hD [0, 5, 6] rfl (by decide) rfl 0 rfl rfl rfl rfl hl.1 rfl (Nat.le_of_ble_eq_true rfl) dX8_above_72 ⟨Nat.le_of_ble_eq_true rfl, Nat.le_of_ble_eq_true rfl⟩  ((k_X8_tell l D cI cJ cK x0 xn xl xt xo xf xs xp xq xr xc o1 z oz of (lN t_16) (by first | assumption | omega | decide +kernel) (by first | assumption | omega | decide +kernel)) _)) (fun u H locs hp hPD hS => ?_)
                  obtain ⟨of_18, rfl, hv0, ht_19⟩ := hp
                  obtain ⟨hP, hD⟩ := hPD rfl
                  have hP : va_P D vwCl (wl_k_X8_above cI cJ cK x0 xn xl xt xo xf xs xp xq xr xc f1 f2 o1 (nI z) nf (nI fz_6) fn_7 fs_8 1 of_18) H := hP
                  have hD : va_D A (wl_k_X8_above cI cJ cK x0 xn xl xt xo xf xs xp xq xr xc f1 f2 o1 (nI z) nf (nI fz_6) fn_7 fs_8 1 of_18) := hD
                  refine lv_iload hx hb dX8_above_75 (lv_at hl 0 rfl) ?_
                  have hsI_l9 : (nI a_1).toInt = ((a_1 : Nat) : Int) := nI_toInt (by omega)
                  have hsN_l9 : (nI a_1).toInt.toNat = a_1 := nIt (by omega)
                  have hsI_r9 : (nI b_2).toInt = ((b_2 : Nat) : Int) := nI_toInt (by omega)
                  have hsN_r9 : (nI b_2).toInt.toNat = b_2 := nIt (by omega)
                  exact my_retI hx hb hr hlocks hK hS (wl_k_X8_above cI cJ cK x0 xn xl xt xo xf xs xp xq xr xc f1 f2 o1 (nI z) nf (nI fz_6) fn_7 fs_8 1 of_18) hP hD (Or.inr (Or.inr (⟨fz_6, fn_7, fs_8, 1, of_18, rfl, (by first | assumption | omega | trivial | decide +kernel), (by first | assumption | omega | trivial | decide +kernel), (by first | assumption | omega | trivial | decide +kernel), (by first | assumption | omega | trivial | decide +kernel), (by first | assumption | omega | trivial | decide +kernel), (by rw [hsN_l9, hsN_r9]; exact ab_mk (by omega) (by omega) (by omega) hfd hbl9), (by first | assumption | omega | trivial | decide +kernel), (by first | assumption | omega | trivial | decide +kernel), (by first | assumption | omega | trivial | decide +kernel)⟩))) dX8_above_77
          exact loop41 (((256 - z_10.toInt).toNat) + 1) z_10 (Nat.lt_succ_self _) (by first | assumption | omega | decide +kernel) (by first | assumption | omega | decide +kernel) (by first | assumption | omega | decide +kernel) (fun u h1 h2 => absurd h1 (by omega)) _ _ ls hP hD hS (lv_sub hl [0, 1, 2, 3, 4] rfl)
        ·
          have d18 : v9.toInt > (254 : Int) := my_nle c18 rfl (by decide +kernel)
          refine lv_iconst (v := (-1)) hx hb dX8_above_21 (by decide +kernel) ?_
          have hsI_l9 : (nI a_1).toInt = ((a_1 : Nat) : Int) := nI_toInt (by omega)
          have hsN_l9 : (nI a_1).toInt.toNat = a_1 := nIt (by omega)
          have hsI_r9 : (nI b_2).toInt = ((b_2 : Nat) : Int) := nI_toInt (by omega)
          have hsN_r9 : (nI b_2).toInt.toNat = b_2 := nIt (by omega)
          exact my_retI hx hb hr hlocks hK hS (wl_k_X8_above cI cJ cK x0 xn xl xt xo xf xs xp xq xr xc f1 f2 o1 (nI z) nf (nI fz) fn fs (nI oz) of) hP hD (Or.inl ⟨rfl, rfl, (by first | assumption | omega | trivial | decide +kernel)⟩) dX8_above_22
  ·
    refine lv_if_eq (tgt := 21) hx hb dX8_above_6 (by decide) (fun c6 => ?_) (fun c6 => ?_)
    ·
      refine lv_iconst (v := (-1)) hx hb dX8_above_21 (by decide +kernel) ?_
      exact my_retI hx hb hr hlocks hK hS (wl_k_X8_above cI cJ cK x0 xn xl xt xo xf xs xp xq xr xc f1 f2 o1 (nI z) nf (nI fz) fn fs (nI oz) of) hP hD (Or.inl ⟨rfl, rfl, (by first | assumption | omega | trivial | decide +kernel)⟩) dX8_above_22
    ·
      exact absurd c6 (by decide +kernel)
abbrev wl_k_X8_sums (cI cJ cK : ClassId) (x0 : Nat) (xn : Nat) (xl : Nat) (xt : Nat) (xo : Nat) (xf : Nat) (xs : Nat) (xp : Nat) (xq : Nat) (xr : Nat) (xc : Nat) (f1 : Nat) (f2 : Nat) (o1 : Nat) (v0_ : Int32) (v1_ : Nat → Int32) (v2_ : Int32) (v3_ : Nat → Int32) (v4_ : Nat → Int32) (v5_ : Int32) (v6_ : Nat → Int64) : va_W := [(x0, .inr (8, [.ref xn, .int v0_, .ref xl, .ref xt, .ref xo, .ref xf, .ref xs, .ref xp, .ref xq, .ref xr, .ref xc])), (xn, .inl (cI, 64, .inl v1_)), (xf, .inr (6, [.ref f1, .ref f2, .int v2_])), (f1, .inl (cI, 512, .inl v3_)), (f2, .inl (cI, 64, .inl v4_)), (xo, .inr (7, [.ref o1, .int v5_])), (o1, .inl (cJ, 64, .inr (.inl v6_)))]
set_option maxHeartbeats 4000000 in
set_option maxRecDepth 100000 in
theorem k_X8_sums (l : Launch) (D : va_G) (cI cJ cK : ClassId) (x0 : Nat) (xn : Nat) (xl : Nat) (xt : Nat) (xo : Nat) (xf : Nat) (xs : Nat) (xp : Nat) (xq : Nat) (xr : Nat) (xc : Nat) (f1 : Nat) (f2 : Nat) (o1 : Nat) (z : Nat) (nf : Nat → Int32) (fz : Nat) (fn : Nat → Int32) (fs : Nat → Int32) (oz : Nat) (of : Nat → Int64) (l9 : Int32) (r9 : Int32) (k9 : Int32) (hz_z : z ≤ 64) (hR_nf : RB 0 255 nf) (hz_fz : fz ≤ 64) (hz_oz : oz ≤ 64) : ctI l yX8_sums wsX8_sums ({ frames := 4, cells := 0, slots := 0, locals := 240 } : Room) D (tyIJ cI cJ cK) [.ref x0, .int l9, .int r9, .int k9] (wl_k_X8_sums cI cJ cK x0 xn xl xt xo xf xs xp xq xr xc f1 f2 o1 (nI z) nf (nI fz) fn fs (nI oz) of) (fun (r : Int32) (u : va_W) => (u = (wl_k_X8_sums cI cJ cK x0 xn xl xt xo xf xs xp xq xr xc f1 f2 o1 (nI z) nf (nI fz) fn fs (nI oz) of) ∧ r = (-1) ∧ (l9.toInt < 0 ∨ r9.toInt < l9.toInt ∨ z < r9.toInt ∨ k9.toInt < 0)) ∨ (u = (wl_k_X8_sums cI cJ cK x0 xn xl xt xo xf xs xp xq xr xc f1 f2 o1 (nI z) nf (nI fz) fn fs (nI oz) of) ∧ r = (-2) ∧ 0 ≤ l9.toInt ∧ l9.toInt ≤ r9.toInt ∧ r9.toInt ≤ z ∧ r9.toInt - l9.toInt < k9.toInt) ∨ (∃ (fz' : Nat) (fn' : Nat → Int32) (fs' : Nat → Int32) (oz' : Nat) (of' : Nat → Int64), u = (wl_k_X8_sums cI cJ cK x0 xn xl xt xo xf xs xp xq xr xc f1 f2 o1 (nI z) nf (nI fz') fn' fs' (nI oz') of') ∧ fz' ≤ 64 ∧ oz' ≤ 64 ∧ 0 ≤ l9.toInt ∧ l9.toInt ≤ r9.toInt ∧ r9.toInt ≤ z ∧ 0 ≤ k9.toInt ∧ k9.toInt ≤ r9.toInt - l9.toInt ∧ smP nf l9.toInt.toNat r9.toInt.toNat k9.toInt.toNat r ∧ oz' = 1)) := by
  refine ctI.of (cc := cX8_sums) (maxL := 7) (ret := (some .int)) (by decide) rfl (Nat.le_of_ble_eq_true rfl) ?_
  intro p e s m below meth c ls A hx hb hr hts hown hml hlocks hname hA hK hN hP hD hS hl
  have hl : lv_has ls 7 [(0, .ref x0), (1, .int l9), (2, .int r9), (3, .int k9)] := hl
  have hown : s.vm.findClass RX8 = some m.cls := hown
  have hi8 : ∀ w ∈ u_ws RX8 TX8 11, w ∈ wsX8_sums := by decide +kernel
  have fl41 := hts (.fieldLink RX8 41 "PlaneColumn" "first" "LPlaneColumn$Tally;") (by decide +kernel)
  have fl9 := hts (.fieldLink RX8 9 "PlaneColumn" "numbers" "[I") (by decide +kernel)
  refine lv_aload_n hx hb dX8_sums_0 rfl (lv_at hl 0 rfl) ?_
  refine lv_iload_n hx hb dX8_sums_1 rfl (lv_at hl 1 rfl) ?_
  refine lv_iload_n hx hb dX8_sums_2 rfl (lv_at hl 2 rfl) ?_
  refine my_gpI (my_pV (As := [.int l9, .int r9]) (rest := []) (ci := 8) ⟨hx, hb, hml, hown, hts⟩ (cwV 2 hts gX8_sums_X8_isSpan rfl rfl rfl (by decide +kernel) ⟨Nat.le_of_ble_eq_true rfl, Nat.le_of_ble_eq_true rfl⟩) hN hK hP [0] rfl 0 rfl rfl rfl rfl hl.1 rfl (Nat.le_of_ble_eq_true rfl) dX8_sums_3 ⟨Nat.le_of_ble_eq_true rfl, Nat.le_of_ble_eq_true rfl⟩  (k_X8_isSpan l D cI cJ cK x0 xn xl xt xo xf xs xp xq xr xc z l9 r9 (by first | assumption | omega | decide +kernel))) (fun r hp => ?_)
  rcases hp with ⟨a_1, b_2, rfl, rfl, rfl, ha_3, hb_4⟩ | ⟨rfl, ho_5⟩
  ·
    refine lv_if_eq (tgt := 13) hx hb dX8_sums_6 (by decide) (fun c6 => ?_) (fun c6 => ?_)
    ·
      exact absurd c6 (by decide +kernel)
    ·
      refine lv_iload_n hx hb dX8_sums_9 rfl (lv_at hl 3 rfl) ?_
      refine lv_if_ge (tgt := 15) hx hb dX8_sums_10 (by decide) (fun c10 => ?_) (fun c10 => ?_)
      ·
        have d10 : k9.toInt ≥ (0 : Int) := my_ge c10 rfl (by decide +kernel)
        obtain ⟨w_6, rfl, hw_6⟩ := my_natP (x := k9) (by omega)
        have hlw_6 : w_6 < 2147483648 := by have h9 := Int32.toInt_lt (nI w_6); omega
        refine lv_iload_n hx hb dX8_sums_15 rfl (lv_at hl 3 rfl) ?_
        refine lv_iload_n hx hb dX8_sums_16 rfl (lv_at hl 2 rfl) ?_
        refine lv_iload_n hx hb dX8_sums_17 rfl (lv_at hl 1 rfl) ?_
        refine lv_isub hx hb dX8_sums_18 ?_
        refine lv_topi (fun z_7 ez_7 => ?_)
        try have tz_7 : z_7.toInt = ((b_2 : Nat) : Int) - ((a_1 : Nat) : Int) := by rw [ez_7]; exact my_subI (nI_toInt (by omega)) (nI_toInt (by omega)) (by omega) (by omega)
        refine lv_icmp_le (tgt := 25) hx hb dX8_sums_19 (by decide) (fun c19 => ?_) (fun c19 => ?_)
        ·
          have d19 : ((w_6 : Nat) : Int) ≤ z_7.toInt := my_le c19 (nI_toInt (by omega)) rfl
          refine lv_aload_n hx hb dX8_sums_25 rfl (lv_at hl 0 rfl) ?_
          refine va_get (ci := 8) (v := .ref xf) (C := RX8) (T := TX8) (N := 11) hx hb hts hi8 hown hK hP 0 rfl rfl 5 (by decide) fl41 (fun _ h9 => h9) rfl dX8_sums_26 ?_
          refine lv_aload_n hx hb dX8_sums_29 rfl (lv_at hl 0 rfl) ?_
          refine va_get (ci := 8) (v := .ref xn) (C := RX8) (T := TX8) (N := 11) hx hb hts hi8 hown hK hP 0 rfl rfl 0 (by decide) fl9 (fun _ h9 => h9) rfl dX8_sums_30 ?_
          refine lv_iload_n hx hb dX8_sums_33 rfl (lv_at hl 1 rfl) ?_
          refine lv_iload_n hx hb dX8_sums_34 rfl (lv_at hl 2 rfl) ?_
          refine my_goVS (wc := (wl_k_X6_take cI cJ cK xf f1 f2 xn (nI fz) fn fs nf)) hP hD hS hA [2, 3, 4, 1] rfl [none, some 3, some 0, some 1, some 2] (by decide +kernel) (my_cV (As := [.ref xn, .int (nI a_1), .int (nI b_2)]) (rest := []) (ci := 6) (wc := (wl_k_X6_take cI cJ cK xf f1 f2 xn (nI fz) fn fs nf)) ⟨hx, hb, hml, hown, hts⟩ (cwV 3 hts gX8_sums_X6_take rfl rfl rfl (by decide +kernel) ⟨Nat.le_of_ble_eq_true rfl, Nat.le_of_ble_eq_true rfl⟩) hN hK hP hD [2, 3, 4, 1] rfl (by decide) rfl 2 rfl rfl rfl rfl hl.1 rfl (Nat.le_of_ble_eq_true rfl) dX8_sums_35 ⟨Nat.le_of_ble_eq_true rfl, Nat.le_of_ble_eq_true rfl⟩  ((k_X6_take l D cI cJ cK xf f1 f2 xn fz fn fs nf a_1 b_2 (by first | assumption | omega | decide +kernel) hR_nf (by first | assumption | omega | decide +kernel) (by first | assumption | omega | decide +kernel)) _)) (fun u H locs hp hPD hS => ?_)
          obtain ⟨fz_8, fn_9, fs_10, rfl, hhz_fz_11, hnd, hn8, hfz, hsv⟩ := hp
          obtain ⟨hP, hD⟩ := hPD rfl
          have hP : va_P D vwCl (wl_k_X8_sums cI cJ cK x0 xn xl xt xo xf xs xp xq xr xc f1 f2 o1 (nI z) nf (nI fz_8) fn_9 fs_10 (nI oz) of) H := hP
          have hD : va_D A (wl_k_X8_sums cI cJ cK x0 xn xl xt xo xf xs xp xq xr xc f1 f2 o1 (nI z) nf (nI fz_8) fn_9 fs_10 (nI oz) of) := hD
          refine lv_iconst (v := 0) hx hb dX8_sums_38 (by decide +kernel) ?_
          refine lv_istore (lv' := [(4, .int 0), (0, .ref x0), (1, .int (nI a_1)), (2, .int (nI b_2)), (3, .int (nI w_6))]) hx hb dX8_sums_39 hl (by decide) rfl (fun ls hl => ?_)
          refine lv_iconst (v := 0) hx hb dX8_sums_41 (by decide +kernel) ?_
          refine lv_istore (lv' := [(5, .int 0), (4, .int 0), (0, .ref x0), (1, .int (nI a_1)), (2, .int (nI b_2)), (3, .int (nI w_6))]) hx hb dX8_sums_42 hl (by decide) rfl (fun ls hl => ?_)
          refine lv_iconst (v := 0) hx hb dX8_sums_44 (by decide +kernel) ?_
          refine lv_istore (lv' := [(6, .int 0), (5, .int 0), (4, .int 0), (0, .ref x0), (1, .int (nI a_1)), (2, .int (nI b_2)), (3, .int (nI w_6))]) hx hb dX8_sums_45 hl (by decide) rfl (fun ls hl => ?_)
          have loop47 : ∀ (n9 : Nat) (k : Nat) (y5_47 : Int32) (x : Int32), 64 - k < n9 → (k ≤ 64) → (k ≤ w_6) → (x.toInt = ((fb_sm (fun i => (fs_10 i).toInt.toNat) k : Nat) : Int)) → ∀ (H : Heap) (locs : List Loc) (ls : Array Slot), va_P D vwCl (wl_k_X8_sums cI cJ cK x0 xn xl xt xo xf xs xp xq xr xc f1 f2 o1 (nI z) nf (nI fz_8) fn_9 fs_10 (nI oz) of) H → va_D A (wl_k_X8_sums cI cJ cK x0 xn xl xt xo xf xs xp xq xr xc f1 f2 o1 (nI z) nf (nI fz_8) fn_9 fs_10 (nI oz) of) → va_S A s.heap H locs → lv_has ls 7 [(6, .int (nI k)), (5, .int y5_47), (4, .int x), (0, .ref x0), (1, .int (nI a_1)), (2, .int (nI b_2)), (3, .int (nI w_6))] → W p l e ({ frames := 4, cells := 0, slots := 0, locals := 240 } : Room) s m [.ref x0, .int (nI a_1), .int (nI b_2), .int (nI w_6)].toArray below meth c H locs 0 0 (MQ below (va_Qi (fun (r : Int32) (u : va_W) => (u = (wl_k_X8_sums cI cJ cK x0 xn xl xt xo xf xs xp xq xr xc f1 f2 o1 (nI z) nf (nI fz) fn fs (nI oz) of) ∧ r = (-1) ∧ ((nI a_1).toInt < 0 ∨ (nI b_2).toInt < (nI a_1).toInt ∨ z < (nI b_2).toInt ∨ (nI w_6).toInt < 0)) ∨ (u = (wl_k_X8_sums cI cJ cK x0 xn xl xt xo xf xs xp xq xr xc f1 f2 o1 (nI z) nf (nI fz) fn fs (nI oz) of) ∧ r = (-2) ∧ 0 ≤ (nI a_1).toInt ∧ (nI a_1).toInt ≤ (nI b_2).toInt ∧ (nI b_2).toInt ≤ z ∧ (nI b_2).toInt - (nI a_1).toInt < (nI w_6).toInt) ∨ (∃ (fz' : Nat) (fn' : Nat → Int32) (fs' : Nat → Int32) (oz' : Nat) (of' : Nat → Int64), u = (wl_k_X8_sums cI cJ cK x0 xn xl xt xo xf xs xp xq xr xc f1 f2 o1 (nI z) nf (nI fz') fn' fs' (nI oz') of') ∧ fz' ≤ 64 ∧ oz' ≤ 64 ∧ 0 ≤ (nI a_1).toInt ∧ (nI a_1).toInt ≤ (nI b_2).toInt ∧ (nI b_2).toInt ≤ z ∧ 0 ≤ (nI w_6).toInt ∧ (nI w_6).toInt ≤ (nI b_2).toInt - (nI a_1).toInt ∧ smP nf (nI a_1).toInt.toNat (nI b_2).toInt.toNat (nI w_6).toInt.toNat r ∧ oz' = 1)) (my_B D (tyIJ cI cJ cK) A) A) [.ref x0, .int (nI a_1), .int (nI b_2), .int (nI w_6)].toArray s 0 0 A) (F0 m 47 ls []) := by
            intro n9
            induction n9 with
            | zero =>
              intro k y5_47 x hn9
              exact absurd hn9 (Nat.not_lt_zero _)
            | succ n9 ih47 =>
              intro k y5_47 x hn9 hk_k hkk hxs H locs ls hP hD hS hl
              have hsz9 := cnF_sum hR_nf (a := a_1) (b := b_2) (by omega)
              have hbd := sm_bd hsv k (by omega)
              refine lv_iload hx hb dX8_sums_47 (lv_at hl 0 rfl) ?_
              refine lv_iload_n hx hb dX8_sums_49 rfl (lv_at hl 6 rfl) ?_
              refine lv_icmp_ge (tgt := 93) hx hb dX8_sums_50 (by decide) (fun c50 => ?_) (fun c50 => ?_)
              ·
                have d50 : ((k : Nat) : Int) ≥ ((w_6 : Nat) : Int) := my_ge c50 (nI_toInt (by omega)) (nI_toInt (by omega))
                have hke : k = w_6 := by omega
                refine lv_aload_n hx hb dX8_sums_93 rfl (lv_at hl 3 rfl) ?_
                refine lv_iload hx hb dX8_sums_94 (lv_at hl 1 rfl) ?_
                refine lv_i2l (v := y5_47.toInt64) hx hb dX8_sums_96 rfl ?_
                refine my_goVS (wc := (wl_k_X8_tell cI cJ cK x0 xn xl xt xo xf xs xp xq xr xc o1 (nI z) (nI oz) of)) hP hD hS hA [0, 5, 6] rfl [some 0, none, none, none, none, some 1, some 2] (by decide +kernel) (my_cV (As := [.long y5_47.toInt64]) (rest := []) (ci := 8) (wc := (wl_k_X8_tell cI cJ cK x0 xn xl xt xo xf xs xp xq xr xc o1 (nI z) (nI oz) of)) ⟨hx, hb, hml, hown, hts⟩ (cwV 1 hts gX8_sums_X8_tell rfl rfl rfl (by decide +kernel) ⟨Nat.le_of_ble_eq_true rfl, Nat.le_of_ble_eq_true rfl⟩) hN hK hP hD [0, 5, 6] rfl (by decide) rfl 0 rfl rfl rfl rfl hl.1 rfl (Nat.le_of_ble_eq_true rfl) dX8_sums_97 ⟨Nat.le_of_ble_eq_true rfl, Nat.le_of_ble_eq_true rfl⟩  ((k_X8_tell l D cI cJ cK x0 xn xl xt xo xf xs xp xq xr xc o1 z oz of y5_47.toInt64 (by first | assumption | omega | decide +kernel) (by first | assumption | omega | decide +kernel)) _)) (fun u H locs hp hPD hS => ?_)
                obtain ⟨of_12, rfl, hv0, ht_13⟩ := hp
                obtain ⟨hP, hD⟩ := hPD rfl
                have hP : va_P D vwCl (wl_k_X8_sums cI cJ cK x0 xn xl xt xo xf xs xp xq xr xc f1 f2 o1 (nI z) nf (nI fz_8) fn_9 fs_10 1 of_12) H := hP
                have hD : va_D A (wl_k_X8_sums cI cJ cK x0 xn xl xt xo xf xs xp xq xr xc f1 f2 o1 (nI z) nf (nI fz_8) fn_9 fs_10 1 of_12) := hD
                refine lv_iload hx hb dX8_sums_100 (lv_at hl 2 rfl) ?_
                have hsI_l9 : (nI a_1).toInt = ((a_1 : Nat) : Int) := nI_toInt (by omega)
                have hsN_l9 : (nI a_1).toInt.toNat = a_1 := nIt (by omega)
                have hsI_r9 : (nI b_2).toInt = ((b_2 : Nat) : Int) := nI_toInt (by omega)
                have hsN_r9 : (nI b_2).toInt.toNat = b_2 := nIt (by omega)
                have hsI_k9 : (nI w_6).toInt = ((w_6 : Nat) : Int) := nI_toInt (by omega)
                have hsN_k9 : (nI w_6).toInt.toNat = w_6 := nIt (by omega)
                exact my_retI hx hb hr hlocks hK hS (wl_k_X8_sums cI cJ cK x0 xn xl xt xo xf xs xp xq xr xc f1 f2 o1 (nI z) nf (nI fz_8) fn_9 fs_10 1 of_12) hP hD (Or.inr (Or.inr (⟨fz_8, fn_9, fs_10, 1, of_12, rfl, (by first | assumption | omega | trivial | decide +kernel), (by first | assumption | omega | trivial | decide +kernel), (by first | assumption | omega | trivial | decide +kernel), (by first | assumption | omega | trivial | decide +kernel), (by first | assumption | omega | trivial | decide +kernel), (by first | assumption | omega | trivial | decide +kernel), (by first | assumption | omega | trivial | decide +kernel), (by rw [hsN_l9, hsN_r9, hsN_k9, ← hke]; exact sm_mk hsv hxs), (by first | assumption | omega | trivial | decide +kernel)⟩))) dX8_sums_102
              ·
                have d50 : ((k : Nat) : Int) < ((w_6 : Nat) : Int) := my_nge c50 (nI_toInt (by omega)) (nI_toInt (by omega))
                refine lv_iload hx hb dX8_sums_53 (lv_at hl 2 rfl) ?_
                refine lv_aload_n hx hb dX8_sums_55 rfl (lv_at hl 3 rfl) ?_
                refine va_get (ci := 8) (v := .ref xf) (C := RX8) (T := TX8) (N := 11) hx hb hts hi8 hown hK hP 0 rfl rfl 5 (by decide) fl41 (fun _ h9 => h9) rfl dX8_sums_56 ?_
                refine lv_iload hx hb dX8_sums_59 (lv_at hl 0 rfl) ?_
                refine my_gpI (my_pV (As := [.int (nI k)]) (rest := [.int x]) (ci := 6) ⟨hx, hb, hml, hown, hts⟩ (cwV 1 hts gX8_sums_X6_sortedAt rfl rfl rfl (by decide +kernel) ⟨Nat.le_of_ble_eq_true rfl, Nat.le_of_ble_eq_true rfl⟩) hN hK hP [2, 4] rfl 2 rfl rfl rfl rfl hl.1 rfl (Nat.le_of_ble_eq_true rfl) dX8_sums_61 ⟨Nat.le_of_ble_eq_true rfl, Nat.le_of_ble_eq_true rfl⟩  (kf_X6_sortedAt l D cI cJ cK xf f1 f2 fz_8 fs_10 k (by first | assumption | omega | decide +kernel) (by first | assumption | omega | decide +kernel))) (fun r hp => ?_)
                rcases hp with ⟨rfl, ha_14⟩ | ⟨rfl, ha_15⟩
                ·
                  have hrg := sr_rng hsv (k := k) (by omega)
                  refine lv_iadd hx hb dX8_sums_64 ?_
                  refine lv_topi (fun z_16 ez_16 => ?_)
                  try have tz_16 : z_16.toInt = x.toInt + (fs_10 k).toInt := by rw [ez_16]; exact my_addI rfl rfl (by omega) (by omega)
                  refine lv_istore (lv' := [(4, .int z_16), (6, .int (nI k)), (5, .int y5_47), (0, .ref x0), (1, .int (nI a_1)), (2, .int (nI b_2)), (3, .int (nI w_6))]) hx hb dX8_sums_65 hl (by decide) rfl (fun ls hl => ?_)
                  refine lv_iload hx hb dX8_sums_67 (lv_at hl 2 rfl) ?_
                  refine lv_aload_n hx hb dX8_sums_69 rfl (lv_at hl 3 rfl) ?_
                  refine va_get (ci := 8) (v := .ref xf) (C := RX8) (T := TX8) (N := 11) hx hb hts hi8 hown hK hP 0 rfl rfl 5 (by decide) fl41 (fun _ h9 => h9) rfl dX8_sums_70 ?_
                  refine lv_iload_n hx hb dX8_sums_73 rfl (lv_at hl 5 rfl) ?_
                  refine lv_iload_n hx hb dX8_sums_74 rfl (lv_at hl 4 rfl) ?_
                  refine lv_isub hx hb dX8_sums_75 ?_
                  refine my_eqi (y := nI (b_2 - a_1)) (my_subN (a := b_2) (b := a_1) (by omega)) ?_
                  refine lv_iconst (v := 1) hx hb dX8_sums_76 (by decide +kernel) ?_
                  refine lv_isub hx hb dX8_sums_77 ?_
                  refine my_eqi (y := nI ((b_2 - a_1) - 1)) (my_subN (a := b_2 - a_1) (b := 1) (by omega)) ?_
                  refine lv_iload hx hb dX8_sums_78 (lv_at hl 1 rfl) ?_
                  refine lv_isub hx hb dX8_sums_80 ?_
                  refine my_eqi (y := nI (((b_2 - a_1) - 1) - k)) (my_subN (a := (b_2 - a_1) - 1) (b := k) (by omega)) ?_
                  refine my_gpI (my_pV (As := [.int (nI (((b_2 - a_1) - 1) - k))]) (rest := [.int y5_47]) (ci := 6) ⟨hx, hb, hml, hown, hts⟩ (cwV 1 hts gX8_sums_X6_sortedAt rfl rfl rfl (by decide +kernel) ⟨Nat.le_of_ble_eq_true rfl, Nat.le_of_ble_eq_true rfl⟩) hN hK hP [2, 4] rfl 2 rfl rfl rfl rfl hl.1 rfl (Nat.le_of_ble_eq_true rfl) dX8_sums_81 ⟨Nat.le_of_ble_eq_true rfl, Nat.le_of_ble_eq_true rfl⟩  (kf_X6_sortedAt l D cI cJ cK xf f1 f2 fz_8 fs_10 (((b_2 - a_1) - 1) - k) (by first | assumption | omega | decide +kernel) (by first | assumption | omega | decide +kernel))) (fun r hp => ?_)
                  rcases hp with ⟨rfl, ha_17⟩ | ⟨rfl, ha_18⟩
                  ·
                    refine lv_iadd hx hb dX8_sums_84 ?_
                    refine lv_topi (fun z_19 ez_19 => ?_)
                    try have tz_19 : z_19.toInt = y5_47.toInt + (fs_10 (((b_2 - a_1) - 1) - k)).toInt := by rw [ez_19]; exact my_addI rfl rfl (by omega) (by omega)
                    refine lv_istore (lv' := [(5, .int z_19), (4, .int z_16), (6, .int (nI k)), (0, .ref x0), (1, .int (nI a_1)), (2, .int (nI b_2)), (3, .int (nI w_6))]) hx hb dX8_sums_85 hl (by decide) rfl (fun ls hl => ?_)
                    refine lv_iinc (v := nI (k + 1)) (lv' := [(6, .int (nI (k + 1))), (5, .int z_19), (4, .int z_16), (0, .ref x0), (1, .int (nI a_1)), (2, .int (nI b_2)), (3, .int (nI w_6))]) hx hb dX8_sums_87 hl (k := 2) rfl (my_incN k 1 (by decide +kernel)) (by decide) rfl (fun ls hl => ?_)
                    refine lv_goto (tgt := 47) hx hb dX8_sums_90 (by decide) ?_
                    exact ih47  (k + 1) z_19 z_16 (by omega) (by first | assumption | omega | decide +kernel) (by first | assumption | omega | decide +kernel) (sm_step hsv (by omega) hxs (by assumption)) _ _ ls hP hD hS (lv_sub hl [0, 1, 2, 3, 4, 5, 6] rfl)
                  ·
                    exfalso; omega
                ·
                  exfalso; omega
          have ec_20 : (0 : Int32).toInt = 0 := by decide +kernel
          have ec_21 : (0 : Int32).toInt = 0 := by decide +kernel
          exact loop47 ((64 - 0) + 1) 0 (0 : Int32) (0 : Int32) (Nat.lt_succ_self _) (by first | assumption | omega | decide +kernel) (by first | assumption | omega | decide +kernel) (rfl) _ _ ls hP hD hS (lv_sub hl [0, 1, 2, 3, 4, 5, 6] rfl)
        ·
          have d19 : ((w_6 : Nat) : Int) > z_7.toInt := my_nle c19 (nI_toInt (by omega)) rfl
          refine lv_bipush (v := (-2)) hx hb dX8_sums_22 (by decide +kernel) ?_
          have hsI_l9 : (nI a_1).toInt = ((a_1 : Nat) : Int) := nI_toInt (by omega)
          have hsN_l9 : (nI a_1).toInt.toNat = a_1 := nIt (by omega)
          have hsI_r9 : (nI b_2).toInt = ((b_2 : Nat) : Int) := nI_toInt (by omega)
          have hsN_r9 : (nI b_2).toInt.toNat = b_2 := nIt (by omega)
          have hsI_k9 : (nI w_6).toInt = ((w_6 : Nat) : Int) := nI_toInt (by omega)
          have hsN_k9 : (nI w_6).toInt.toNat = w_6 := nIt (by omega)
          exact my_retI hx hb hr hlocks hK hS (wl_k_X8_sums cI cJ cK x0 xn xl xt xo xf xs xp xq xr xc f1 f2 o1 (nI z) nf (nI fz) fn fs (nI oz) of) hP hD (Or.inr (Or.inl ⟨rfl, rfl, (by first | assumption | omega | trivial | decide +kernel), (by first | assumption | omega | trivial | decide +kernel), (by first | assumption | omega | trivial | decide +kernel), (by first | assumption | omega | trivial | decide +kernel)⟩)) dX8_sums_24
      ·
        have d10 : k9.toInt < (0 : Int) := my_nge c10 rfl (by decide +kernel)
        refine lv_iconst (v := (-1)) hx hb dX8_sums_13 (by decide +kernel) ?_
        have hsI_l9 : (nI a_1).toInt = ((a_1 : Nat) : Int) := nI_toInt (by omega)
        have hsN_l9 : (nI a_1).toInt.toNat = a_1 := nIt (by omega)
        have hsI_r9 : (nI b_2).toInt = ((b_2 : Nat) : Int) := nI_toInt (by omega)
        have hsN_r9 : (nI b_2).toInt.toNat = b_2 := nIt (by omega)
        exact my_retI hx hb hr hlocks hK hS (wl_k_X8_sums cI cJ cK x0 xn xl xt xo xf xs xp xq xr xc f1 f2 o1 (nI z) nf (nI fz) fn fs (nI oz) of) hP hD (Or.inl ⟨rfl, rfl, (by first | assumption | omega | trivial | decide +kernel)⟩) dX8_sums_14
  ·
    refine lv_if_eq (tgt := 13) hx hb dX8_sums_6 (by decide) (fun c6 => ?_) (fun c6 => ?_)
    ·
      refine lv_iconst (v := (-1)) hx hb dX8_sums_13 (by decide +kernel) ?_
      exact my_retI hx hb hr hlocks hK hS (wl_k_X8_sums cI cJ cK x0 xn xl xt xo xf xs xp xq xr xc f1 f2 o1 (nI z) nf (nI fz) fn fs (nI oz) of) hP hD (Or.inl ⟨rfl, rfl, (by first | assumption | omega | trivial | decide +kernel)⟩) dX8_sums_14
    ·
      exact absurd c6 (by decide +kernel)
abbrev wl_k_X8_often (cI cJ cK : ClassId) (x0 : Nat) (xn : Nat) (xl : Nat) (xt : Nat) (xo : Nat) (xf : Nat) (xs : Nat) (xp : Nat) (xq : Nat) (xr : Nat) (xc : Nat) (f1 : Nat) (f2 : Nat) (o1 : Nat) (v0_ : Int32) (v1_ : Nat → Int32) (v2_ : Int32) (v3_ : Nat → Int32) (v4_ : Nat → Int32) (v5_ : Int32) (v6_ : Nat → Int64) : va_W := [(x0, .inr (8, [.ref xn, .int v0_, .ref xl, .ref xt, .ref xo, .ref xf, .ref xs, .ref xp, .ref xq, .ref xr, .ref xc])), (xn, .inl (cI, 64, .inl v1_)), (xf, .inr (6, [.ref f1, .ref f2, .int v2_])), (f1, .inl (cI, 512, .inl v3_)), (f2, .inl (cI, 64, .inl v4_)), (xo, .inr (7, [.ref o1, .int v5_])), (o1, .inl (cJ, 64, .inr (.inl v6_)))]
set_option maxHeartbeats 4000000 in
set_option maxRecDepth 100000 in
theorem k_X8_often (l : Launch) (D : va_G) (cI cJ cK : ClassId) (x0 : Nat) (xn : Nat) (xl : Nat) (xt : Nat) (xo : Nat) (xf : Nat) (xs : Nat) (xp : Nat) (xq : Nat) (xr : Nat) (xc : Nat) (f1 : Nat) (f2 : Nat) (o1 : Nat) (z : Nat) (nf : Nat → Int32) (fz : Nat) (fn : Nat → Int32) (fs : Nat → Int32) (oz : Nat) (of : Nat → Int64) (l9 : Int32) (r9 : Int32) (m9 : Int32) (hz_z : z ≤ 64) (hR_nf : RB 0 255 nf) (hz_fz : fz ≤ 64) (hz_oz : oz ≤ 64) : ctI l yX8_often wsX8_often ({ frames := 4, cells := 0, slots := 0, locals := 240 } : Room) D (tyIJ cI cJ cK) [.ref x0, .int l9, .int r9, .int m9] (wl_k_X8_often cI cJ cK x0 xn xl xt xo xf xs xp xq xr xc f1 f2 o1 (nI z) nf (nI fz) fn fs (nI oz) of) (fun (r : Int32) (u : va_W) => (u = (wl_k_X8_often cI cJ cK x0 xn xl xt xo xf xs xp xq xr xc f1 f2 o1 (nI z) nf (nI fz) fn fs (nI oz) of) ∧ r = (-1) ∧ (l9.toInt < 0 ∨ r9.toInt < l9.toInt ∨ z < r9.toInt ∨ m9.toInt < 1 ∨ 64 < m9.toInt)) ∨ (∃ (t' : Nat) (fz' : Nat) (fn' : Nat → Int32) (fs' : Nat → Int32) (oz' : Nat) (of' : Nat → Int64), u = (wl_k_X8_often cI cJ cK x0 xn xl xt xo xf xs xp xq xr xc f1 f2 o1 (nI z) nf (nI fz') fn' fs' (nI oz') of') ∧ r = nI t' ∧ fz' ≤ 64 ∧ oz' ≤ 64 ∧ 0 ≤ l9.toInt ∧ l9.toInt ≤ r9.toInt ∧ r9.toInt ≤ z ∧ 1 ≤ m9.toInt ∧ m9.toInt ≤ 64 ∧ t' = fb_ct (ofP (cnF nf l9.toInt.toNat r9.toInt.toNat) m9.toInt.toNat) 256 ∧ oz' = 1 + 2 * min t' 16)) := by
  refine ctI.of (cc := cX8_often) (maxL := 6) (ret := (some .int)) (by decide) rfl (Nat.le_of_ble_eq_true rfl) ?_
  intro p e s m below meth c ls A hx hb hr hts hown hml hlocks hname hA hK hN hP hD hS hl
  have hl : lv_has ls 6 [(0, .ref x0), (1, .int l9), (2, .int r9), (3, .int m9)] := hl
  have hown : s.vm.findClass RX8 = some m.cls := hown
  have hi8 : ∀ w ∈ u_ws RX8 TX8 11, w ∈ wsX8_often := by decide +kernel
  have fl34 := hts (.fieldLink RX8 34 "PlaneColumn" "told" "LPlaneColumn$Told;") (by decide +kernel)
  have fl41 := hts (.fieldLink RX8 41 "PlaneColumn" "first" "LPlaneColumn$Tally;") (by decide +kernel)
  have fl9 := hts (.fieldLink RX8 9 "PlaneColumn" "numbers" "[I") (by decide +kernel)
  refine lv_aload_n hx hb dX8_often_0 rfl (lv_at hl 0 rfl) ?_
  refine lv_iload_n hx hb dX8_often_1 rfl (lv_at hl 1 rfl) ?_
  refine lv_iload_n hx hb dX8_often_2 rfl (lv_at hl 2 rfl) ?_
  refine my_gpI (my_pV (As := [.int l9, .int r9]) (rest := []) (ci := 8) ⟨hx, hb, hml, hown, hts⟩ (cwV 2 hts gX8_often_X8_isSpan rfl rfl rfl (by decide +kernel) ⟨Nat.le_of_ble_eq_true rfl, Nat.le_of_ble_eq_true rfl⟩) hN hK hP [0] rfl 0 rfl rfl rfl rfl hl.1 rfl (Nat.le_of_ble_eq_true rfl) dX8_often_3 ⟨Nat.le_of_ble_eq_true rfl, Nat.le_of_ble_eq_true rfl⟩  (k_X8_isSpan l D cI cJ cK x0 xn xl xt xo xf xs xp xq xr xc z l9 r9 (by first | assumption | omega | decide +kernel))) (fun r hp => ?_)
  rcases hp with ⟨a_1, b_2, rfl, rfl, rfl, ha_3, hb_4⟩ | ⟨rfl, ho_5⟩
  ·
    refine lv_if_eq (tgt := 16) hx hb dX8_often_6 (by decide) (fun c6 => ?_) (fun c6 => ?_)
    ·
      exact absurd c6 (by decide +kernel)
    ·
      refine lv_iload_n hx hb dX8_often_9 rfl (lv_at hl 3 rfl) ?_
      refine my_gpI (my_pS (As := [.int m9]) (rest := []) ⟨hx, hb, hml, hown, hts⟩ (va_cwS 1 hts gX8_often_X8_isTimes rfl rfl rfl (by decide +kernel) ⟨Nat.le_of_ble_eq_true rfl, Nat.le_of_ble_eq_true rfl⟩) hN hK hP [] rfl rfl hl.1 rfl (Nat.le_of_ble_eq_true rfl) dX8_often_10 ⟨Nat.le_of_ble_eq_true rfl, Nat.le_of_ble_eq_true rfl⟩  (k_X8_isTimes l D cI cJ cK m9)) (fun r hp => ?_)
      rcases hp with ⟨k_6, rfl, rfl, ha_7, hb_8⟩ | ⟨rfl, ho_9⟩
      ·
        refine lv_if_ne (tgt := 18) hx hb dX8_often_13 (by decide) (fun c13 => ?_) (fun c13 => ?_)
        ·
          refine lv_aload_n hx hb dX8_often_18 rfl (lv_at hl 0 rfl) ?_
          refine va_get (ci := 8) (v := .ref xf) (C := RX8) (T := TX8) (N := 11) hx hb hts hi8 hown hK hP 0 rfl rfl 5 (by decide) fl41 (fun _ h9 => h9) rfl dX8_often_19 ?_
          refine lv_aload_n hx hb dX8_often_22 rfl (lv_at hl 0 rfl) ?_
          refine va_get (ci := 8) (v := .ref xn) (C := RX8) (T := TX8) (N := 11) hx hb hts hi8 hown hK hP 0 rfl rfl 0 (by decide) fl9 (fun _ h9 => h9) rfl dX8_often_23 ?_
          refine lv_iload_n hx hb dX8_often_26 rfl (lv_at hl 1 rfl) ?_
          refine lv_iload_n hx hb dX8_often_27 rfl (lv_at hl 2 rfl) ?_
          refine my_goVS (wc := (wl_k_X6_take cI cJ cK xf f1 f2 xn (nI fz) fn fs nf)) hP hD hS hA [2, 3, 4, 1] rfl [none, some 3, some 0, some 1, some 2] (by decide +kernel) (my_cV (As := [.ref xn, .int (nI a_1), .int (nI b_2)]) (rest := []) (ci := 6) (wc := (wl_k_X6_take cI cJ cK xf f1 f2 xn (nI fz) fn fs nf)) ⟨hx, hb, hml, hown, hts⟩ (cwV 3 hts gX8_often_X6_take rfl rfl rfl (by decide +kernel) ⟨Nat.le_of_ble_eq_true rfl, Nat.le_of_ble_eq_true rfl⟩) hN hK hP hD [2, 3, 4, 1] rfl (by decide) rfl 2 rfl rfl rfl rfl hl.1 rfl (Nat.le_of_ble_eq_true rfl) dX8_often_28 ⟨Nat.le_of_ble_eq_true rfl, Nat.le_of_ble_eq_true rfl⟩  ((k_X6_take l D cI cJ cK xf f1 f2 xn fz fn fs nf a_1 b_2 (by first | assumption | omega | decide +kernel) hR_nf (by first | assumption | omega | decide +kernel) (by first | assumption | omega | decide +kernel)) _)) (fun u H locs hp hPD hS => ?_)
          obtain ⟨fz_10, fn_11, fs_12, rfl, hhz_fz_13, hnd, hn8, hfz, hsv⟩ := hp
          obtain ⟨hP, hD⟩ := hPD rfl
          have hP : va_P D vwCl (wl_k_X8_often cI cJ cK x0 xn xl xt xo xf xs xp xq xr xc f1 f2 o1 (nI z) nf (nI fz_10) fn_11 fs_12 (nI oz) of) H := hP
          have hD : va_D A (wl_k_X8_often cI cJ cK x0 xn xl xt xo xf xs xp xq xr xc f1 f2 o1 (nI z) nf (nI fz_10) fn_11 fs_12 (nI oz) of) := hD
          refine lv_aload_n hx hb dX8_often_31 rfl (lv_at hl 0 rfl) ?_
          refine lv_aload_n hx hb dX8_often_32 rfl (lv_at hl 0 rfl) ?_
          refine va_get (ci := 8) (v := .ref xf) (C := RX8) (T := TX8) (N := 11) hx hb hts hi8 hown hK hP 0 rfl rfl 5 (by decide) fl41 (fun _ h9 => h9) rfl dX8_often_33 ?_
          refine lv_iload_n hx hb dX8_often_36 rfl (lv_at hl 3 rfl) ?_
          refine my_gpI (my_pV (As := [.int (nI k_6)]) (rest := [.ref x0]) (ci := 6) ⟨hx, hb, hml, hown, hts⟩ (cwV 1 hts gX8_often_X6_nodesWith rfl rfl rfl (by decide +kernel) ⟨Nat.le_of_ble_eq_true rfl, Nat.le_of_ble_eq_true rfl⟩) hN hK hP [2, 3] rfl 2 rfl rfl rfl rfl hl.1 rfl (Nat.le_of_ble_eq_true rfl) dX8_often_37 ⟨Nat.le_of_ble_eq_true rfl, Nat.le_of_ble_eq_true rfl⟩  (k_X6_nodesWith l D cI cJ cK xf f1 f2 fz_10 fn_11 (nI k_6) (by first | assumption | omega | decide +kernel))) (fun r hp => ?_)
          obtain _ := hp
          obtain ⟨r_14, rfl⟩ : ∃ z, z = r := ⟨_, rfl⟩
          refine lv_i2l (v := r_14.toInt64) hx hb dX8_often_40 rfl ?_
          refine my_goVS (wc := (wl_k_X8_tell cI cJ cK x0 xn xl xt xo xf xs xp xq xr xc o1 (nI z) (nI oz) of)) hP hD hS hA [0, 5, 6] rfl [some 0, none, none, none, none, some 1, some 2] (by decide +kernel) (my_cV (As := [.long r_14.toInt64]) (rest := []) (ci := 8) (wc := (wl_k_X8_tell cI cJ cK x0 xn xl xt xo xf xs xp xq xr xc o1 (nI z) (nI oz) of)) ⟨hx, hb, hml, hown, hts⟩ (cwV 1 hts gX8_often_X8_tell rfl rfl rfl (by decide +kernel) ⟨Nat.le_of_ble_eq_true rfl, Nat.le_of_ble_eq_true rfl⟩) hN hK hP hD [0, 5, 6] rfl (by decide) rfl 0 rfl rfl rfl rfl hl.1 rfl (Nat.le_of_ble_eq_true rfl) dX8_often_41 ⟨Nat.le_of_ble_eq_true rfl, Nat.le_of_ble_eq_true rfl⟩  ((k_X8_tell l D cI cJ cK x0 xn xl xt xo xf xs xp xq xr xc o1 z oz of r_14.toInt64 (by first | assumption | omega | decide +kernel) (by first | assumption | omega | decide +kernel)) _)) (fun u H locs hp hPD hS => ?_)
          obtain ⟨of_15, rfl, hv0, ht_16⟩ := hp
          obtain ⟨hP, hD⟩ := hPD rfl
          have hP : va_P D vwCl (wl_k_X8_often cI cJ cK x0 xn xl xt xo xf xs xp xq xr xc f1 f2 o1 (nI z) nf (nI fz_10) fn_11 fs_12 1 of_15) H := hP
          have hD : va_D A (wl_k_X8_often cI cJ cK x0 xn xl xt xo xf xs xp xq xr xc f1 f2 o1 (nI z) nf (nI fz_10) fn_11 fs_12 1 of_15) := hD
          refine lv_iconst (v := 0) hx hb dX8_often_44 (by decide +kernel) ?_
          refine lv_istore (lv' := [(4, .int 0), (0, .ref x0), (1, .int (nI a_1)), (2, .int (nI b_2)), (3, .int (nI k_6))]) hx hb dX8_often_45 hl (by decide) rfl (fun ls hl => ?_)
          refine lv_iconst (v := 0) hx hb dX8_often_47 (by decide +kernel) ?_
          refine lv_istore (lv' := [(5, .int 0), (4, .int 0), (0, .ref x0), (1, .int (nI a_1)), (2, .int (nI b_2)), (3, .int (nI k_6))]) hx hb dX8_often_48 hl (by decide) rfl (fun ls hl => ?_)
          have loop50 : ∀ (n9 : Nat) (v : Nat) (t : Nat) (xo_size_50 : Nat) (o1_50 : Nat → Int64), 256 - v < n9 → (t ≤ 256) → (v ≤ 256) → (t ≤ v) → (t = fb_ct (ofP (cnF nf a_1 b_2) k_6) v) → (xo_size_50 = 1 + 2 * min t 16) → (xo_size_50 ≤ 64) → ∀ (H : Heap) (locs : List Loc) (ls : Array Slot), va_P D vwCl (wl_k_X8_often cI cJ cK x0 xn xl xt xo xf xs xp xq xr xc f1 f2 o1 (nI z) nf (nI fz_10) fn_11 fs_12 (nI xo_size_50) o1_50) H → va_D A (wl_k_X8_often cI cJ cK x0 xn xl xt xo xf xs xp xq xr xc f1 f2 o1 (nI z) nf (nI fz_10) fn_11 fs_12 (nI xo_size_50) o1_50) → va_S A s.heap H locs → lv_has ls 6 [(5, .int (nI v)), (4, .int (nI t)), (0, .ref x0), (1, .int (nI a_1)), (2, .int (nI b_2)), (3, .int (nI k_6))] → W p l e ({ frames := 4, cells := 0, slots := 0, locals := 240 } : Room) s m [.ref x0, .int (nI a_1), .int (nI b_2), .int (nI k_6)].toArray below meth c H locs 0 0 (MQ below (va_Qi (fun (r : Int32) (u : va_W) => (u = (wl_k_X8_often cI cJ cK x0 xn xl xt xo xf xs xp xq xr xc f1 f2 o1 (nI z) nf (nI fz) fn fs (nI oz) of) ∧ r = (-1) ∧ ((nI a_1).toInt < 0 ∨ (nI b_2).toInt < (nI a_1).toInt ∨ z < (nI b_2).toInt ∨ (nI k_6).toInt < 1 ∨ 64 < (nI k_6).toInt)) ∨ (∃ (t' : Nat) (fz' : Nat) (fn' : Nat → Int32) (fs' : Nat → Int32) (oz' : Nat) (of' : Nat → Int64), u = (wl_k_X8_often cI cJ cK x0 xn xl xt xo xf xs xp xq xr xc f1 f2 o1 (nI z) nf (nI fz') fn' fs' (nI oz') of') ∧ r = nI t' ∧ fz' ≤ 64 ∧ oz' ≤ 64 ∧ 0 ≤ (nI a_1).toInt ∧ (nI a_1).toInt ≤ (nI b_2).toInt ∧ (nI b_2).toInt ≤ z ∧ 1 ≤ (nI k_6).toInt ∧ (nI k_6).toInt ≤ 64 ∧ t' = fb_ct (ofP (cnF nf (nI a_1).toInt.toNat (nI b_2).toInt.toNat) (nI k_6).toInt.toNat) 256 ∧ oz' = 1 + 2 * min t' 16)) (my_B D (tyIJ cI cJ cK) A) A) [.ref x0, .int (nI a_1), .int (nI b_2), .int (nI k_6)].toArray s 0 0 A) (F0 m 50 ls []) := by
            intro n9
            induction n9 with
            | zero =>
              intro v t xo_size_50 o1_50 hn9
              exact absurd hn9 (Nat.not_lt_zero _)
            | succ n9 ih50 =>
              intro v t xo_size_50 o1_50 hn9 hk_t hk_v htv ht htd9 hz_xo_size_50 H locs ls hP hD hS hl
              refine lv_iload hx hb dX8_often_50 (lv_at hl 0 rfl) ?_
              refine lv_sipush (v := 255) hx hb dX8_often_52 (by decide +kernel) ?_
              refine lv_icmp_gt (tgt := 114) hx hb dX8_often_55 (by decide) (fun c55 => ?_) (fun c55 => ?_)
              ·
                have d55 : ((v : Nat) : Int) > (255 : Int) := my_gt c55 (nI_toInt (by omega)) (by decide +kernel)
                refine lv_iload hx hb dX8_often_114 (lv_at hl 1 rfl) ?_
                have hsI_l9 : (nI a_1).toInt = ((a_1 : Nat) : Int) := nI_toInt (by omega)
                have hsN_l9 : (nI a_1).toInt.toNat = a_1 := nIt (by omega)
                have hsI_r9 : (nI b_2).toInt = ((b_2 : Nat) : Int) := nI_toInt (by omega)
                have hsN_r9 : (nI b_2).toInt.toNat = b_2 := nIt (by omega)
                have hsI_m9 : (nI k_6).toInt = ((k_6 : Nat) : Int) := nI_toInt (by omega)
                have hsN_m9 : (nI k_6).toInt.toNat = k_6 := nIt (by omega)
                exact my_retI hx hb hr hlocks hK hS (wl_k_X8_often cI cJ cK x0 xn xl xt xo xf xs xp xq xr xc f1 f2 o1 (nI z) nf (nI fz_10) fn_11 fs_12 (nI xo_size_50) o1_50) hP hD (Or.inr (⟨t, fz_10, fn_11, fs_12, xo_size_50, o1_50, rfl, rfl, (by first | assumption | omega | trivial | decide +kernel), (by first | assumption | omega | trivial | decide +kernel), (by first | assumption | omega | trivial | decide +kernel), (by first | assumption | omega | trivial | decide +kernel), (by first | assumption | omega | trivial | decide +kernel), (by first | assumption | omega | trivial | decide +kernel), (by first | assumption | omega | trivial | decide +kernel), (by rw [hsN_l9, hsN_r9, hsN_m9, ht, show v = 256 from (by omega)]), (by first | assumption | omega | trivial | decide +kernel)⟩)) dX8_often_116
              ·
                have d55 : ((v : Nat) : Int) ≤ (255 : Int) := my_ngt c55 (nI_toInt (by omega)) (by decide +kernel)
                refine lv_aload_n hx hb dX8_often_58 rfl (lv_at hl 2 rfl) ?_
                refine va_get (ci := 8) (v := .ref xf) (C := RX8) (T := TX8) (N := 11) hx hb hts hi8 hown hK hP 0 rfl rfl 5 (by decide) fl41 (fun _ h9 => h9) rfl dX8_often_59 ?_
                refine lv_iload hx hb dX8_often_62 (lv_at hl 0 rfl) ?_
                refine my_gpI (my_pV (As := [.int (nI v)]) (rest := []) (ci := 6) ⟨hx, hb, hml, hown, hts⟩ (cwV 1 hts gX8_often_X6_timesOf rfl rfl rfl (by decide +kernel) ⟨Nat.le_of_ble_eq_true rfl, Nat.le_of_ble_eq_true rfl⟩) hN hK hP [2, 3] rfl 2 rfl rfl rfl rfl hl.1 rfl (Nat.le_of_ble_eq_true rfl) dX8_often_64 ⟨Nat.le_of_ble_eq_true rfl, Nat.le_of_ble_eq_true rfl⟩  (kt_X6_timesOf l D cI cJ cK xf f1 f2 fz_10 fn_11 v (cnF nf a_1 b_2) (by first | assumption | omega | decide +kernel) (by first | assumption | omega | decide +kernel) (hn8) (cnF_64 (by omega)))) (fun r hp => ?_)
                obtain ⟨t_17, rfl, htm, hq_18⟩ := hp
                refine lv_iload_n hx hb dX8_often_67 rfl (lv_at hl 5 rfl) ?_
                refine lv_icmp_lt (tgt := 108) hx hb dX8_often_68 (by decide) (fun c68 => ?_) (fun c68 => ?_)
                ·
                  have d68 : ((t_17 : Nat) : Int) < ((k_6 : Nat) : Int) := my_lt c68 (nI_toInt (by omega)) (nI_toInt (by omega))
                  refine lv_iinc (v := nI (v + 1)) (lv' := [(5, .int (nI (v + 1))), (4, .int (nI t)), (0, .ref x0), (1, .int (nI a_1)), (2, .int (nI b_2)), (3, .int (nI k_6))]) hx hb dX8_often_108 hl (k := 0) rfl (my_incN v 1 (by decide +kernel)) (by decide) rfl (fun ls hl => ?_)
                  refine lv_goto (tgt := 50) hx hb dX8_often_111 (by decide) ?_
                  exact ih50  (v + 1) t xo_size_50 o1_50 (by omega) (by first | assumption | omega | decide +kernel) (by first | assumption | omega | decide +kernel) (by first | assumption | omega | decide +kernel) (by first | exact ct_yes ht (decide_eq_true (by omega)) | exact ct_no ht (decide_eq_false (by omega))) (by first | assumption | omega | decide +kernel) (by first | assumption | omega | decide +kernel) _ _ ls hP hD hS (lv_sub hl [0, 1, 2, 3, 4, 5] rfl)
                ·
                  have d68 : ((t_17 : Nat) : Int) ≥ ((k_6 : Nat) : Int) := my_nlt c68 (nI_toInt (by omega)) (nI_toInt (by omega))
                  refine lv_iload hx hb dX8_often_71 (lv_at hl 1 rfl) ?_
                  refine lv_bipush (v := 16) hx hb dX8_often_73 (by decide +kernel) ?_
                  refine lv_icmp_ge (tgt := 105) hx hb dX8_often_75 (by decide) (fun c75 => ?_) (fun c75 => ?_)
                  ·
                    have d75 : ((t : Nat) : Int) ≥ (16 : Int) := my_ge c75 (nI_toInt (by omega)) (by decide +kernel)
                    refine lv_iinc (v := nI (t + 1)) (lv' := [(4, .int (nI (t + 1))), (5, .int (nI v)), (0, .ref x0), (1, .int (nI a_1)), (2, .int (nI b_2)), (3, .int (nI k_6))]) hx hb dX8_often_105 hl (k := 1) rfl (my_incN t 1 (by decide +kernel)) (by decide) rfl (fun ls hl => ?_)
                    refine lv_iinc (v := nI (v + 1)) (lv' := [(5, .int (nI (v + 1))), (4, .int (nI (t + 1))), (0, .ref x0), (1, .int (nI a_1)), (2, .int (nI b_2)), (3, .int (nI k_6))]) hx hb dX8_often_108 hl (k := 1) rfl (my_incN v 1 (by decide +kernel)) (by decide) rfl (fun ls hl => ?_)
                    refine lv_goto (tgt := 50) hx hb dX8_often_111 (by decide) ?_
                    exact ih50  (v + 1) (t + 1) xo_size_50 o1_50 (by omega) (by first | assumption | omega | decide +kernel) (by first | assumption | omega | decide +kernel) (by first | assumption | omega | decide +kernel) (by first | exact ct_yes ht (decide_eq_true (by omega)) | exact ct_no ht (decide_eq_false (by omega))) (by first | assumption | omega | decide +kernel) (by first | assumption | omega | decide +kernel) _ _ ls hP hD hS (lv_sub hl [0, 1, 2, 3, 4, 5] rfl)
                  ·
                    have d75 : ((t : Nat) : Int) < (16 : Int) := my_nge c75 (nI_toInt (by omega)) (by decide +kernel)
                    refine lv_aload_n hx hb dX8_often_78 rfl (lv_at hl 2 rfl) ?_
                    refine va_get (ci := 8) (v := .ref xo) (C := RX8) (T := TX8) (N := 11) hx hb hts hi8 hown hK hP 0 rfl rfl 4 (by decide) fl34 (fun _ h9 => h9) rfl dX8_often_79 ?_
                    refine lv_iload hx hb dX8_often_82 (lv_at hl 0 rfl) ?_
                    refine lv_i2l (v := lN v) hx hb dX8_often_84 (nI_l (by omega)) ?_
                    refine my_goVS (wc := (wl_kf_X7_add cI cJ cK xo o1 (nI xo_size_50) o1_50)) hP hD hS hA [5, 6] rfl [none, none, none, none, none, some 0, some 1] (by decide +kernel) (my_cV (As := [.long (lN v)]) (rest := []) (ci := 7) (wc := (wl_kf_X7_add cI cJ cK xo o1 (nI xo_size_50) o1_50)) ⟨hx, hb, hml, hown, hts⟩ (cwV 1 hts gX8_often_X7_add rfl rfl rfl (by decide +kernel) ⟨Nat.le_of_ble_eq_true rfl, Nat.le_of_ble_eq_true rfl⟩) hN hK hP hD [5, 6] rfl (by decide) rfl 5 rfl rfl rfl rfl hl.1 rfl (Nat.le_of_ble_eq_true rfl) dX8_often_85 ⟨Nat.le_of_ble_eq_true rfl, Nat.le_of_ble_eq_true rfl⟩  ((kf_X7_add l D cI cJ cK xo o1 xo_size_50 o1_50 (lN v) (by first | assumption | omega | decide +kernel) (by first | assumption | omega | decide +kernel)) _)) (fun u H locs hp hPD hS => ?_)
                    obtain ⟨of_19, rfl, hof, ht_20⟩ := hp
                    obtain ⟨hP, hD⟩ := hPD rfl
                    have hP : va_P D vwCl (wl_k_X8_often cI cJ cK x0 xn xl xt xo xf xs xp xq xr xc f1 f2 o1 (nI z) nf (nI fz_10) fn_11 fs_12 (nI (xo_size_50 + 1)) of_19) H := hP
                    have hD : va_D A (wl_k_X8_often cI cJ cK x0 xn xl xt xo xf xs xp xq xr xc f1 f2 o1 (nI z) nf (nI fz_10) fn_11 fs_12 (nI (xo_size_50 + 1)) of_19) := hD
                    refine lv_aload_n hx hb dX8_often_88 rfl (lv_at hl 2 rfl) ?_
                    refine va_get (ci := 8) (v := .ref xo) (C := RX8) (T := TX8) (N := 11) hx hb hts hi8 hown hK hP 0 rfl rfl 4 (by decide) fl34 (fun _ h9 => h9) rfl dX8_often_89 ?_
                    refine lv_aload_n hx hb dX8_often_92 rfl (lv_at hl 2 rfl) ?_
                    refine va_get (ci := 8) (v := .ref xf) (C := RX8) (T := TX8) (N := 11) hx hb hts hi8 hown hK hP 0 rfl rfl 5 (by decide) fl41 (fun _ h9 => h9) rfl dX8_often_93 ?_
                    refine lv_iload hx hb dX8_often_96 (lv_at hl 0 rfl) ?_
                    refine my_gpI (my_pV (As := [.int (nI v)]) (rest := [.ref xo]) (ci := 6) ⟨hx, hb, hml, hown, hts⟩ (cwV 1 hts gX8_often_X6_timesOf rfl rfl rfl (by decide +kernel) ⟨Nat.le_of_ble_eq_true rfl, Nat.le_of_ble_eq_true rfl⟩) hN hK hP [2, 3] rfl 2 rfl rfl rfl rfl hl.1 rfl (Nat.le_of_ble_eq_true rfl) dX8_often_98 ⟨Nat.le_of_ble_eq_true rfl, Nat.le_of_ble_eq_true rfl⟩  (kt_X6_timesOf l D cI cJ cK xf f1 f2 fz_10 fn_11 v (cnF nf a_1 b_2) (by first | assumption | omega | decide +kernel) (by first | assumption | omega | decide +kernel) (hn8) (cnF_64 (by omega)))) (fun r hp => ?_)
                    obtain ⟨t_21, rfl, htm, hq_22⟩ := hp
                    refine lv_i2l (v := lN t_21) hx hb dX8_often_101 (nI_l (by omega)) ?_
                    refine my_goVS (wc := (wl_kf_X7_add cI cJ cK xo o1 (nI (xo_size_50 + 1)) of_19)) hP hD hS hA [5, 6] rfl [none, none, none, none, none, some 0, some 1] (by decide +kernel) (my_cV (As := [.long (lN t_21)]) (rest := []) (ci := 7) (wc := (wl_kf_X7_add cI cJ cK xo o1 (nI (xo_size_50 + 1)) of_19)) ⟨hx, hb, hml, hown, hts⟩ (cwV 1 hts gX8_often_X7_add rfl rfl rfl (by decide +kernel) ⟨Nat.le_of_ble_eq_true rfl, Nat.le_of_ble_eq_true rfl⟩) hN hK hP hD [5, 6] rfl (by decide) rfl 5 rfl rfl rfl rfl hl.1 rfl (Nat.le_of_ble_eq_true rfl) dX8_often_102 ⟨Nat.le_of_ble_eq_true rfl, Nat.le_of_ble_eq_true rfl⟩  ((kf_X7_add l D cI cJ cK xo o1 (xo_size_50 + 1) of_19 (lN t_21) (by first | assumption | omega | decide +kernel) (by first | assumption | omega | decide +kernel)) _)) (fun u H locs hp hPD hS => ?_)
                    obtain ⟨of_23, rfl, hof, ht_24⟩ := hp
                    obtain ⟨hP, hD⟩ := hPD rfl
                    have hP : va_P D vwCl (wl_k_X8_often cI cJ cK x0 xn xl xt xo xf xs xp xq xr xc f1 f2 o1 (nI z) nf (nI fz_10) fn_11 fs_12 (nI ((xo_size_50 + 1) + 1)) of_23) H := hP
                    have hD : va_D A (wl_k_X8_often cI cJ cK x0 xn xl xt xo xf xs xp xq xr xc f1 f2 o1 (nI z) nf (nI fz_10) fn_11 fs_12 (nI ((xo_size_50 + 1) + 1)) of_23) := hD
                    refine lv_iinc (v := nI (t + 1)) (lv' := [(4, .int (nI (t + 1))), (5, .int (nI v)), (0, .ref x0), (1, .int (nI a_1)), (2, .int (nI b_2)), (3, .int (nI k_6))]) hx hb dX8_often_105 hl (k := 1) rfl (my_incN t 1 (by decide +kernel)) (by decide) rfl (fun ls hl => ?_)
                    refine lv_iinc (v := nI (v + 1)) (lv' := [(5, .int (nI (v + 1))), (4, .int (nI (t + 1))), (0, .ref x0), (1, .int (nI a_1)), (2, .int (nI b_2)), (3, .int (nI k_6))]) hx hb dX8_often_108 hl (k := 1) rfl (my_incN v 1 (by decide +kernel)) (by decide) rfl (fun ls hl => ?_)
                    refine lv_goto (tgt := 50) hx hb dX8_often_111 (by decide) ?_
                    exact ih50  (v + 1) (t + 1) ((xo_size_50 + 1) + 1) of_23 (by omega) (by first | assumption | omega | decide +kernel) (by first | assumption | omega | decide +kernel) (by first | assumption | omega | decide +kernel) (by first | exact ct_yes ht (decide_eq_true (by omega)) | exact ct_no ht (decide_eq_false (by omega))) (by first | assumption | omega | decide +kernel) (by first | assumption | omega | decide +kernel) _ _ ls hP hD hS (lv_sub hl [0, 1, 2, 3, 4, 5] rfl)
          exact loop50 ((256 - 0) + 1) 0 0 1 of_15 (Nat.lt_succ_self _) (by first | assumption | omega | decide +kernel) (by first | assumption | omega | decide +kernel) (by first | assumption | omega | decide +kernel) (rfl) (by first | assumption | omega | decide +kernel) (by first | assumption | omega | decide +kernel) _ _ ls hP hD hS (lv_sub hl [0, 1, 2, 3, 4, 5] rfl)
        ·
          exact absurd c13 (by decide +kernel)
      ·
        refine lv_if_ne (tgt := 18) hx hb dX8_often_13 (by decide) (fun c13 => ?_) (fun c13 => ?_)
        ·
          exact absurd c13 (by decide +kernel)
        ·
          refine lv_iconst (v := (-1)) hx hb dX8_often_16 (by decide +kernel) ?_
          have hsI_l9 : (nI a_1).toInt = ((a_1 : Nat) : Int) := nI_toInt (by omega)
          have hsN_l9 : (nI a_1).toInt.toNat = a_1 := nIt (by omega)
          have hsI_r9 : (nI b_2).toInt = ((b_2 : Nat) : Int) := nI_toInt (by omega)
          have hsN_r9 : (nI b_2).toInt.toNat = b_2 := nIt (by omega)
          exact my_retI hx hb hr hlocks hK hS (wl_k_X8_often cI cJ cK x0 xn xl xt xo xf xs xp xq xr xc f1 f2 o1 (nI z) nf (nI fz) fn fs (nI oz) of) hP hD (Or.inl ⟨rfl, rfl, (by first | assumption | omega | trivial | decide +kernel)⟩) dX8_often_17
  ·
    refine lv_if_eq (tgt := 16) hx hb dX8_often_6 (by decide) (fun c6 => ?_) (fun c6 => ?_)
    ·
      refine lv_iconst (v := (-1)) hx hb dX8_often_16 (by decide +kernel) ?_
      exact my_retI hx hb hr hlocks hK hS (wl_k_X8_often cI cJ cK x0 xn xl xt xo xf xs xp xq xr xc f1 f2 o1 (nI z) nf (nI fz) fn fs (nI oz) of) hP hD (Or.inl ⟨rfl, rfl, (by first | assumption | omega | trivial | decide +kernel)⟩) dX8_often_17
    ·
      exact absurd c6 (by decide +kernel)
abbrev wl_k_X8_mode (cI cJ cK : ClassId) (x0 : Nat) (xn : Nat) (xl : Nat) (xt : Nat) (xo : Nat) (xf : Nat) (xs : Nat) (xp : Nat) (xq : Nat) (xr : Nat) (xc : Nat) (f1 : Nat) (f2 : Nat) (o1 : Nat) (v0_ : Int32) (v1_ : Nat → Int32) (v2_ : Int32) (v3_ : Nat → Int32) (v4_ : Nat → Int32) (v5_ : Int32) (v6_ : Nat → Int64) : va_W := [(x0, .inr (8, [.ref xn, .int v0_, .ref xl, .ref xt, .ref xo, .ref xf, .ref xs, .ref xp, .ref xq, .ref xr, .ref xc])), (xn, .inl (cI, 64, .inl v1_)), (xf, .inr (6, [.ref f1, .ref f2, .int v2_])), (f1, .inl (cI, 512, .inl v3_)), (f2, .inl (cI, 64, .inl v4_)), (xo, .inr (7, [.ref o1, .int v5_])), (o1, .inl (cJ, 64, .inr (.inl v6_)))]
set_option maxHeartbeats 4000000 in
set_option maxRecDepth 100000 in
theorem k_X8_mode (l : Launch) (D : va_G) (cI cJ cK : ClassId) (x0 : Nat) (xn : Nat) (xl : Nat) (xt : Nat) (xo : Nat) (xf : Nat) (xs : Nat) (xp : Nat) (xq : Nat) (xr : Nat) (xc : Nat) (f1 : Nat) (f2 : Nat) (o1 : Nat) (z : Nat) (nf : Nat → Int32) (fz : Nat) (fn : Nat → Int32) (fs : Nat → Int32) (oz : Nat) (of : Nat → Int64) (l9 : Int32) (r9 : Int32) (hz_z : z ≤ 64) (hR_nf : RB 0 255 nf) (hz_fz : fz ≤ 64) (hz_oz : oz ≤ 64) : ctI l yX8_mode wsX8_mode ({ frames := 4, cells := 0, slots := 0, locals := 240 } : Room) D (tyIJ cI cJ cK) [.ref x0, .int l9, .int r9] (wl_k_X8_mode cI cJ cK x0 xn xl xt xo xf xs xp xq xr xc f1 f2 o1 (nI z) nf (nI fz) fn fs (nI oz) of) (fun (r : Int32) (u : va_W) => (u = (wl_k_X8_mode cI cJ cK x0 xn xl xt xo xf xs xp xq xr xc f1 f2 o1 (nI z) nf (nI fz) fn fs (nI oz) of) ∧ r = (-1) ∧ (l9.toInt < 0 ∨ r9.toInt < l9.toInt ∨ z < r9.toInt)) ∨ (u = (wl_k_X8_mode cI cJ cK x0 xn xl xt xo xf xs xp xq xr xc f1 f2 o1 (nI z) nf (nI fz) fn fs (nI oz) of) ∧ r = (-2) ∧ 0 ≤ l9.toInt ∧ l9.toInt ≤ r9.toInt ∧ r9.toInt ≤ z ∧ l9.toInt = r9.toInt) ∨ (∃ (t' : Nat) (fz' : Nat) (fn' : Nat → Int32) (fs' : Nat → Int32) (oz' : Nat) (of' : Nat → Int64), u = (wl_k_X8_mode cI cJ cK x0 xn xl xt xo xf xs xp xq xr xc f1 f2 o1 (nI z) nf (nI fz') fn' fs' (nI oz') of') ∧ r = nI t' ∧ fz' ≤ 64 ∧ oz' ≤ 64 ∧ 0 ≤ l9.toInt ∧ l9.toInt ≤ r9.toInt ∧ r9.toInt ≤ z ∧ l9.toInt < r9.toInt ∧ t' < 256 ∧ mdP (cnF nf l9.toInt.toNat r9.toInt.toNat) t' 256 ∧ oz' = 1)) := by
  refine ctI.of (cc := cX8_mode) (maxL := 5) (ret := (some .int)) (by decide) rfl (Nat.le_of_ble_eq_true rfl) ?_
  intro p e s m below meth c ls A hx hb hr hts hown hml hlocks hname hA hK hN hP hD hS hl
  have hl : lv_has ls 5 [(0, .ref x0), (1, .int l9), (2, .int r9)] := hl
  have hown : s.vm.findClass RX8 = some m.cls := hown
  have hi8 : ∀ w ∈ u_ws RX8 TX8 11, w ∈ wsX8_mode := by decide +kernel
  have fl41 := hts (.fieldLink RX8 41 "PlaneColumn" "first" "LPlaneColumn$Tally;") (by decide +kernel)
  have fl9 := hts (.fieldLink RX8 9 "PlaneColumn" "numbers" "[I") (by decide +kernel)
  refine lv_aload_n hx hb dX8_mode_0 rfl (lv_at hl 0 rfl) ?_
  refine lv_iload_n hx hb dX8_mode_1 rfl (lv_at hl 1 rfl) ?_
  refine lv_iload_n hx hb dX8_mode_2 rfl (lv_at hl 2 rfl) ?_
  refine my_gpI (my_pV (As := [.int l9, .int r9]) (rest := []) (ci := 8) ⟨hx, hb, hml, hown, hts⟩ (cwV 2 hts gX8_mode_X8_isSpan rfl rfl rfl (by decide +kernel) ⟨Nat.le_of_ble_eq_true rfl, Nat.le_of_ble_eq_true rfl⟩) hN hK hP [0] rfl 0 rfl rfl rfl rfl hl.1 rfl (Nat.le_of_ble_eq_true rfl) dX8_mode_3 ⟨Nat.le_of_ble_eq_true rfl, Nat.le_of_ble_eq_true rfl⟩  (k_X8_isSpan l D cI cJ cK x0 xn xl xt xo xf xs xp xq xr xc z l9 r9 (by first | assumption | omega | decide +kernel))) (fun r hp => ?_)
  rcases hp with ⟨a_1, b_2, rfl, rfl, rfl, ha_3, hb_4⟩ | ⟨rfl, ho_5⟩
  ·
    refine lv_if_ne (tgt := 11) hx hb dX8_mode_6 (by decide) (fun c6 => ?_) (fun c6 => ?_)
    ·
      refine lv_iload_n hx hb dX8_mode_11 rfl (lv_at hl 1 rfl) ?_
      refine lv_iload_n hx hb dX8_mode_12 rfl (lv_at hl 2 rfl) ?_
      refine lv_icmp_ne (tgt := 19) hx hb dX8_mode_13 (by decide) (fun c13 => ?_) (fun c13 => ?_)
      ·
        have d13 : ((a_1 : Nat) : Int) ≠ ((b_2 : Nat) : Int) := my_ne c13 (nI_toInt (by omega)) (nI_toInt (by omega))
        refine lv_aload_n hx hb dX8_mode_19 rfl (lv_at hl 0 rfl) ?_
        refine va_get (ci := 8) (v := .ref xf) (C := RX8) (T := TX8) (N := 11) hx hb hts hi8 hown hK hP 0 rfl rfl 5 (by decide) fl41 (fun _ h9 => h9) rfl dX8_mode_20 ?_
        refine lv_aload_n hx hb dX8_mode_23 rfl (lv_at hl 0 rfl) ?_
        refine va_get (ci := 8) (v := .ref xn) (C := RX8) (T := TX8) (N := 11) hx hb hts hi8 hown hK hP 0 rfl rfl 0 (by decide) fl9 (fun _ h9 => h9) rfl dX8_mode_24 ?_
        refine lv_iload_n hx hb dX8_mode_27 rfl (lv_at hl 1 rfl) ?_
        refine lv_iload_n hx hb dX8_mode_28 rfl (lv_at hl 2 rfl) ?_
        refine my_goVS (wc := (wl_k_X6_take cI cJ cK xf f1 f2 xn (nI fz) fn fs nf)) hP hD hS hA [2, 3, 4, 1] rfl [none, some 3, some 0, some 1, some 2] (by decide +kernel) (my_cV (As := [.ref xn, .int (nI a_1), .int (nI b_2)]) (rest := []) (ci := 6) (wc := (wl_k_X6_take cI cJ cK xf f1 f2 xn (nI fz) fn fs nf)) ⟨hx, hb, hml, hown, hts⟩ (cwV 3 hts gX8_mode_X6_take rfl rfl rfl (by decide +kernel) ⟨Nat.le_of_ble_eq_true rfl, Nat.le_of_ble_eq_true rfl⟩) hN hK hP hD [2, 3, 4, 1] rfl (by decide) rfl 2 rfl rfl rfl rfl hl.1 rfl (Nat.le_of_ble_eq_true rfl) dX8_mode_29 ⟨Nat.le_of_ble_eq_true rfl, Nat.le_of_ble_eq_true rfl⟩  ((k_X6_take l D cI cJ cK xf f1 f2 xn fz fn fs nf a_1 b_2 (by first | assumption | omega | decide +kernel) hR_nf (by first | assumption | omega | decide +kernel) (by first | assumption | omega | decide +kernel)) _)) (fun u H locs hp hPD hS => ?_)
        obtain ⟨fz_6, fn_7, fs_8, rfl, hhz_fz_9, hnd, hn8, hfz, hsv⟩ := hp
        obtain ⟨hP, hD⟩ := hPD rfl
        have hP : va_P D vwCl (wl_k_X8_mode cI cJ cK x0 xn xl xt xo xf xs xp xq xr xc f1 f2 o1 (nI z) nf (nI fz_6) fn_7 fs_8 (nI oz) of) H := hP
        have hD : va_D A (wl_k_X8_mode cI cJ cK x0 xn xl xt xo xf xs xp xq xr xc f1 f2 o1 (nI z) nf (nI fz_6) fn_7 fs_8 (nI oz) of) := hD
        refine lv_iconst (v := 0) hx hb dX8_mode_32 (by decide +kernel) ?_
        refine lv_istore_n (lv' := [(3, .int 0), (0, .ref x0), (1, .int (nI a_1)), (2, .int (nI b_2))]) hx hb dX8_mode_33 rfl hl (by decide) rfl (fun ls hl => ?_)
        refine lv_iconst (v := 1) hx hb dX8_mode_34 (by decide +kernel) ?_
        refine lv_istore (lv' := [(4, .int 1), (3, .int 0), (0, .ref x0), (1, .int (nI a_1)), (2, .int (nI b_2))]) hx hb dX8_mode_35 hl (by decide) rfl (fun ls hl => ?_)
        have loop37 : ∀ (n9 : Nat) (v : Nat) (ct : Nat), 256 - v < n9 → (ct ≤ 255) → (v ≤ 256) → (1 ≤ v) → (ct < v) → (mdP (cnF nf a_1 b_2) ct v) → ∀ (H : Heap) (locs : List Loc) (ls : Array Slot), va_P D vwCl (wl_k_X8_mode cI cJ cK x0 xn xl xt xo xf xs xp xq xr xc f1 f2 o1 (nI z) nf (nI fz_6) fn_7 fs_8 (nI oz) of) H → va_D A (wl_k_X8_mode cI cJ cK x0 xn xl xt xo xf xs xp xq xr xc f1 f2 o1 (nI z) nf (nI fz_6) fn_7 fs_8 (nI oz) of) → va_S A s.heap H locs → lv_has ls 5 [(4, .int (nI v)), (3, .int (nI ct)), (0, .ref x0), (1, .int (nI a_1)), (2, .int (nI b_2))] → W p l e ({ frames := 4, cells := 0, slots := 0, locals := 240 } : Room) s m [.ref x0, .int (nI a_1), .int (nI b_2)].toArray below meth c H locs 0 0 (MQ below (va_Qi (fun (r : Int32) (u : va_W) => (u = (wl_k_X8_mode cI cJ cK x0 xn xl xt xo xf xs xp xq xr xc f1 f2 o1 (nI z) nf (nI fz) fn fs (nI oz) of) ∧ r = (-1) ∧ ((nI a_1).toInt < 0 ∨ (nI b_2).toInt < (nI a_1).toInt ∨ z < (nI b_2).toInt)) ∨ (u = (wl_k_X8_mode cI cJ cK x0 xn xl xt xo xf xs xp xq xr xc f1 f2 o1 (nI z) nf (nI fz) fn fs (nI oz) of) ∧ r = (-2) ∧ 0 ≤ (nI a_1).toInt ∧ (nI a_1).toInt ≤ (nI b_2).toInt ∧ (nI b_2).toInt ≤ z ∧ (nI a_1).toInt = (nI b_2).toInt) ∨ (∃ (t' : Nat) (fz' : Nat) (fn' : Nat → Int32) (fs' : Nat → Int32) (oz' : Nat) (of' : Nat → Int64), u = (wl_k_X8_mode cI cJ cK x0 xn xl xt xo xf xs xp xq xr xc f1 f2 o1 (nI z) nf (nI fz') fn' fs' (nI oz') of') ∧ r = nI t' ∧ fz' ≤ 64 ∧ oz' ≤ 64 ∧ 0 ≤ (nI a_1).toInt ∧ (nI a_1).toInt ≤ (nI b_2).toInt ∧ (nI b_2).toInt ≤ z ∧ (nI a_1).toInt < (nI b_2).toInt ∧ t' < 256 ∧ mdP (cnF nf (nI a_1).toInt.toNat (nI b_2).toInt.toNat) t' 256 ∧ oz' = 1)) (my_B D (tyIJ cI cJ cK) A) A) [.ref x0, .int (nI a_1), .int (nI b_2)].toArray s 0 0 A) (F0 m 37 ls []) := by
          intro n9
          induction n9 with
          | zero =>
            intro v ct hn9
            exact absurd hn9 (Nat.not_lt_zero _)
          | succ n9 ih37 =>
            intro v ct hn9 hk_ct hk_v hv1 hcv hmd H locs ls hP hD hS hl
            refine lv_iload hx hb dX8_mode_37 (lv_at hl 0 rfl) ?_
            refine lv_sipush (v := 255) hx hb dX8_mode_39 (by decide +kernel) ?_
            refine lv_icmp_gt (tgt := 74) hx hb dX8_mode_42 (by decide) (fun c42 => ?_) (fun c42 => ?_)
            ·
              have d42 : ((v : Nat) : Int) > (255 : Int) := my_gt c42 (nI_toInt (by omega)) (by decide +kernel)
              refine lv_aload_n hx hb dX8_mode_74 rfl (lv_at hl 2 rfl) ?_
              refine lv_aload_n hx hb dX8_mode_75 rfl (lv_at hl 2 rfl) ?_
              refine va_get (ci := 8) (v := .ref xf) (C := RX8) (T := TX8) (N := 11) hx hb hts hi8 hown hK hP 0 rfl rfl 5 (by decide) fl41 (fun _ h9 => h9) rfl dX8_mode_76 ?_
              refine lv_iload_n hx hb dX8_mode_79 rfl (lv_at hl 1 rfl) ?_
              refine my_gpI (my_pV (As := [.int (nI ct)]) (rest := [.ref x0]) (ci := 6) ⟨hx, hb, hml, hown, hts⟩ (cwV 1 hts gX8_mode_X6_timesOf rfl rfl rfl (by decide +kernel) ⟨Nat.le_of_ble_eq_true rfl, Nat.le_of_ble_eq_true rfl⟩) hN hK hP [2, 3] rfl 2 rfl rfl rfl rfl hl.1 rfl (Nat.le_of_ble_eq_true rfl) dX8_mode_80 ⟨Nat.le_of_ble_eq_true rfl, Nat.le_of_ble_eq_true rfl⟩  (kt_X6_timesOf l D cI cJ cK xf f1 f2 fz_6 fn_7 ct (cnF nf a_1 b_2) (by first | assumption | omega | decide +kernel) (by first | assumption | omega | decide +kernel) (hn8) (cnF_64 (by omega)))) (fun r hp => ?_)
              obtain ⟨t_10, rfl, htm, hq_11⟩ := hp
              refine lv_i2l (v := lN t_10) hx hb dX8_mode_83 (nI_l (by omega)) ?_
              refine my_goVS (wc := (wl_k_X8_tell cI cJ cK x0 xn xl xt xo xf xs xp xq xr xc o1 (nI z) (nI oz) of)) hP hD hS hA [0, 5, 6] rfl [some 0, none, none, none, none, some 1, some 2] (by decide +kernel) (my_cV (As := [.long (lN t_10)]) (rest := []) (ci := 8) (wc := (wl_k_X8_tell cI cJ cK x0 xn xl xt xo xf xs xp xq xr xc o1 (nI z) (nI oz) of)) ⟨hx, hb, hml, hown, hts⟩ (cwV 1 hts gX8_mode_X8_tell rfl rfl rfl (by decide +kernel) ⟨Nat.le_of_ble_eq_true rfl, Nat.le_of_ble_eq_true rfl⟩) hN hK hP hD [0, 5, 6] rfl (by decide) rfl 0 rfl rfl rfl rfl hl.1 rfl (Nat.le_of_ble_eq_true rfl) dX8_mode_84 ⟨Nat.le_of_ble_eq_true rfl, Nat.le_of_ble_eq_true rfl⟩  ((k_X8_tell l D cI cJ cK x0 xn xl xt xo xf xs xp xq xr xc o1 z oz of (lN t_10) (by first | assumption | omega | decide +kernel) (by first | assumption | omega | decide +kernel)) _)) (fun u H locs hp hPD hS => ?_)
              obtain ⟨of_12, rfl, hv0, ht_13⟩ := hp
              obtain ⟨hP, hD⟩ := hPD rfl
              have hP : va_P D vwCl (wl_k_X8_mode cI cJ cK x0 xn xl xt xo xf xs xp xq xr xc f1 f2 o1 (nI z) nf (nI fz_6) fn_7 fs_8 1 of_12) H := hP
              have hD : va_D A (wl_k_X8_mode cI cJ cK x0 xn xl xt xo xf xs xp xq xr xc f1 f2 o1 (nI z) nf (nI fz_6) fn_7 fs_8 1 of_12) := hD
              refine lv_iload_n hx hb dX8_mode_87 rfl (lv_at hl 1 rfl) ?_
              have hsI_l9 : (nI a_1).toInt = ((a_1 : Nat) : Int) := nI_toInt (by omega)
              have hsN_l9 : (nI a_1).toInt.toNat = a_1 := nIt (by omega)
              have hsI_r9 : (nI b_2).toInt = ((b_2 : Nat) : Int) := nI_toInt (by omega)
              have hsN_r9 : (nI b_2).toInt.toNat = b_2 := nIt (by omega)
              exact my_retI hx hb hr hlocks hK hS (wl_k_X8_mode cI cJ cK x0 xn xl xt xo xf xs xp xq xr xc f1 f2 o1 (nI z) nf (nI fz_6) fn_7 fs_8 1 of_12) hP hD (Or.inr (Or.inr (⟨ct, fz_6, fn_7, fs_8, 1, of_12, rfl, rfl, (by first | assumption | omega | trivial | decide +kernel), (by first | assumption | omega | trivial | decide +kernel), (by first | assumption | omega | trivial | decide +kernel), (by first | assumption | omega | trivial | decide +kernel), (by first | assumption | omega | trivial | decide +kernel), (by first | assumption | omega | trivial | decide +kernel), (by first | assumption | omega | trivial | decide +kernel), (by rw [hsN_l9, hsN_r9]; exact md_mk hmd (by omega)), (by first | assumption | omega | trivial | decide +kernel)⟩))) dX8_mode_88
            ·
              have d42 : ((v : Nat) : Int) ≤ (255 : Int) := my_ngt c42 (nI_toInt (by omega)) (by decide +kernel)
              refine lv_aload_n hx hb dX8_mode_45 rfl (lv_at hl 2 rfl) ?_
              refine va_get (ci := 8) (v := .ref xf) (C := RX8) (T := TX8) (N := 11) hx hb hts hi8 hown hK hP 0 rfl rfl 5 (by decide) fl41 (fun _ h9 => h9) rfl dX8_mode_46 ?_
              refine lv_iload hx hb dX8_mode_49 (lv_at hl 0 rfl) ?_
              refine my_gpI (my_pV (As := [.int (nI v)]) (rest := []) (ci := 6) ⟨hx, hb, hml, hown, hts⟩ (cwV 1 hts gX8_mode_X6_timesOf rfl rfl rfl (by decide +kernel) ⟨Nat.le_of_ble_eq_true rfl, Nat.le_of_ble_eq_true rfl⟩) hN hK hP [2, 3] rfl 2 rfl rfl rfl rfl hl.1 rfl (Nat.le_of_ble_eq_true rfl) dX8_mode_51 ⟨Nat.le_of_ble_eq_true rfl, Nat.le_of_ble_eq_true rfl⟩  (kt_X6_timesOf l D cI cJ cK xf f1 f2 fz_6 fn_7 v (cnF nf a_1 b_2) (by first | assumption | omega | decide +kernel) (by first | assumption | omega | decide +kernel) (hn8) (cnF_64 (by omega)))) (fun r hp => ?_)
              obtain ⟨t_14, rfl, htm, hq_15⟩ := hp
              refine lv_aload_n hx hb dX8_mode_54 rfl (lv_at hl 2 rfl) ?_
              refine va_get (ci := 8) (v := .ref xf) (C := RX8) (T := TX8) (N := 11) hx hb hts hi8 hown hK hP 0 rfl rfl 5 (by decide) fl41 (fun _ h9 => h9) rfl dX8_mode_55 ?_
              refine lv_iload_n hx hb dX8_mode_58 rfl (lv_at hl 1 rfl) ?_
              refine my_gpI (my_pV (As := [.int (nI ct)]) (rest := [.int (nI t_14)]) (ci := 6) ⟨hx, hb, hml, hown, hts⟩ (cwV 1 hts gX8_mode_X6_timesOf rfl rfl rfl (by decide +kernel) ⟨Nat.le_of_ble_eq_true rfl, Nat.le_of_ble_eq_true rfl⟩) hN hK hP [2, 3] rfl 2 rfl rfl rfl rfl hl.1 rfl (Nat.le_of_ble_eq_true rfl) dX8_mode_59 ⟨Nat.le_of_ble_eq_true rfl, Nat.le_of_ble_eq_true rfl⟩  (kt_X6_timesOf l D cI cJ cK xf f1 f2 fz_6 fn_7 ct (cnF nf a_1 b_2) (by first | assumption | omega | decide +kernel) (by first | assumption | omega | decide +kernel) (hn8) (cnF_64 (by omega)))) (fun r hp => ?_)
              obtain ⟨t_16, rfl, htm, hq_17⟩ := hp
              refine lv_icmp_le (tgt := 68) hx hb dX8_mode_62 (by decide) (fun c62 => ?_) (fun c62 => ?_)
              ·
                have d62 : ((t_14 : Nat) : Int) ≤ ((t_16 : Nat) : Int) := my_le c62 (nI_toInt (by omega)) (nI_toInt (by omega))
                refine lv_iinc (v := nI (v + 1)) (lv' := [(4, .int (nI (v + 1))), (3, .int (nI ct)), (0, .ref x0), (1, .int (nI a_1)), (2, .int (nI b_2))]) hx hb dX8_mode_68 hl (k := 0) rfl (my_incN v 1 (by decide +kernel)) (by decide) rfl (fun ls hl => ?_)
                refine lv_goto (tgt := 37) hx hb dX8_mode_71 (by decide) ?_
                exact ih37  (v + 1) ct (by omega) (by first | assumption | omega | decide +kernel) (by first | assumption | omega | decide +kernel) (by first | assumption | omega | decide +kernel) (by first | assumption | omega | decide +kernel) (by first | exact md_old hmd (by omega) | exact md_new hmd (by omega)) _ _ ls hP hD hS (lv_sub hl [0, 1, 2, 3, 4] rfl)
              ·
                have d62 : ((t_14 : Nat) : Int) > ((t_16 : Nat) : Int) := my_nle c62 (nI_toInt (by omega)) (nI_toInt (by omega))
                refine lv_iload hx hb dX8_mode_65 (lv_at hl 0 rfl) ?_
                refine lv_istore_n (lv' := [(3, .int (nI v)), (4, .int (nI v)), (0, .ref x0), (1, .int (nI a_1)), (2, .int (nI b_2))]) hx hb dX8_mode_67 rfl hl (by decide) rfl (fun ls hl => ?_)
                refine lv_iinc (v := nI (v + 1)) (lv' := [(4, .int (nI (v + 1))), (3, .int (nI v)), (0, .ref x0), (1, .int (nI a_1)), (2, .int (nI b_2))]) hx hb dX8_mode_68 hl (k := 1) rfl (my_incN v 1 (by decide +kernel)) (by decide) rfl (fun ls hl => ?_)
                refine lv_goto (tgt := 37) hx hb dX8_mode_71 (by decide) ?_
                exact ih37  (v + 1) v (by omega) (by first | assumption | omega | decide +kernel) (by first | assumption | omega | decide +kernel) (by first | assumption | omega | decide +kernel) (by first | assumption | omega | decide +kernel) (by first | exact md_old hmd (by omega) | exact md_new hmd (by omega)) _ _ ls hP hD hS (lv_sub hl [0, 1, 2, 3, 4] rfl)
        exact loop37 ((256 - 1) + 1) 1 0 (Nat.lt_succ_self _) (by first | assumption | omega | decide +kernel) (by first | assumption | omega | decide +kernel) (by first | assumption | omega | decide +kernel) (by first | assumption | omega | decide +kernel) (md_0) _ _ ls hP hD hS (lv_sub hl [0, 1, 2, 3, 4] rfl)
      ·
        have d13 : ((a_1 : Nat) : Int) = ((b_2 : Nat) : Int) := my_eq c13 (nI_toInt (by omega)) (nI_toInt (by omega))
        refine lv_bipush (v := (-2)) hx hb dX8_mode_16 (by decide +kernel) ?_
        have hsI_l9 : (nI a_1).toInt = ((a_1 : Nat) : Int) := nI_toInt (by omega)
        have hsN_l9 : (nI a_1).toInt.toNat = a_1 := nIt (by omega)
        have hsI_r9 : (nI b_2).toInt = ((b_2 : Nat) : Int) := nI_toInt (by omega)
        have hsN_r9 : (nI b_2).toInt.toNat = b_2 := nIt (by omega)
        exact my_retI hx hb hr hlocks hK hS (wl_k_X8_mode cI cJ cK x0 xn xl xt xo xf xs xp xq xr xc f1 f2 o1 (nI z) nf (nI fz) fn fs (nI oz) of) hP hD (Or.inr (Or.inl ⟨rfl, rfl, (by first | assumption | omega | trivial | decide +kernel), (by first | assumption | omega | trivial | decide +kernel), (by first | assumption | omega | trivial | decide +kernel), (by first | assumption | omega | trivial | decide +kernel)⟩)) dX8_mode_18
    ·
      exact absurd c6 (by decide +kernel)
  ·
    refine lv_if_ne (tgt := 11) hx hb dX8_mode_6 (by decide) (fun c6 => ?_) (fun c6 => ?_)
    ·
      exact absurd c6 (by decide +kernel)
    ·
      refine lv_iconst (v := (-1)) hx hb dX8_mode_9 (by decide +kernel) ?_
      exact my_retI hx hb hr hlocks hK hS (wl_k_X8_mode cI cJ cK x0 xn xl xt xo xf xs xp xq xr xc f1 f2 o1 (nI z) nf (nI fz) fn fs (nI oz) of) hP hD (Or.inl ⟨rfl, rfl, (by first | assumption | omega | trivial | decide +kernel)⟩) dX8_mode_10
abbrev wl_k_X8_across (cI cJ cK : ClassId) (x0 : Nat) (xn : Nat) (xl : Nat) (xt : Nat) (xo : Nat) (xf : Nat) (xs : Nat) (xp : Nat) (xq : Nat) (xr : Nat) (xc : Nat) (f1 : Nat) (f2 : Nat) (o1 : Nat) (v0_ : Int32) (v1_ : Nat → Int32) (v2_ : Int32) (v3_ : Nat → Int32) (v4_ : Nat → Int32) (v5_ : Int32) (v6_ : Nat → Int64) : va_W := [(x0, .inr (8, [.ref xn, .int v0_, .ref xl, .ref xt, .ref xo, .ref xf, .ref xs, .ref xp, .ref xq, .ref xr, .ref xc])), (xn, .inl (cI, 64, .inl v1_)), (xf, .inr (6, [.ref f1, .ref f2, .int v2_])), (f1, .inl (cI, 512, .inl v3_)), (f2, .inl (cI, 64, .inl v4_)), (xo, .inr (7, [.ref o1, .int v5_])), (o1, .inl (cJ, 64, .inr (.inl v6_)))]
set_option maxHeartbeats 4000000 in
set_option maxRecDepth 100000 in
theorem k_X8_across (l : Launch) (D : va_G) (cI cJ cK : ClassId) (x0 : Nat) (xn : Nat) (xl : Nat) (xt : Nat) (xo : Nat) (xf : Nat) (xs : Nat) (xp : Nat) (xq : Nat) (xr : Nat) (xc : Nat) (f1 : Nat) (f2 : Nat) (o1 : Nat) (z : Nat) (nf : Nat → Int32) (fz : Nat) (fn : Nat → Int32) (fs : Nat → Int32) (oz : Nat) (of : Nat → Int64) (l9 : Int32) (r9 : Int32) (w9 : Int32) (k9 : Int32) (hz_z : z ≤ 64) (hR_nf : RB 0 255 nf) (hz_fz : fz ≤ 64) (hz_oz : oz ≤ 64) : ctI l yX8_across wsX8_across ({ frames := 4, cells := 0, slots := 0, locals := 240 } : Room) D (tyIJ cI cJ cK) [.ref x0, .int l9, .int r9, .int w9, .int k9] (wl_k_X8_across cI cJ cK x0 xn xl xt xo xf xs xp xq xr xc f1 f2 o1 (nI z) nf (nI fz) fn fs (nI oz) of) (fun (r : Int32) (u : va_W) => (u = (wl_k_X8_across cI cJ cK x0 xn xl xt xo xf xs xp xq xr xc f1 f2 o1 (nI z) nf (nI fz) fn fs (nI oz) of) ∧ r = (-1) ∧ (l9.toInt < 0 ∨ r9.toInt < l9.toInt ∨ z < r9.toInt ∨ w9.toInt < 0 ∨ 255 < w9.toInt ∨ k9.toInt < 0)) ∨ (∃ (fz' : Nat) (fn' : Nat → Int32) (fs' : Nat → Int32) (oz' : Nat) (of' : Nat → Int64), u = (wl_k_X8_across cI cJ cK x0 xn xl xt xo xf xs xp xq xr xc f1 f2 o1 (nI z) nf (nI fz') fn' fs' (nI oz') of') ∧ r = (-2) ∧ fz' ≤ 64 ∧ oz' ≤ 64 ∧ 0 ≤ l9.toInt ∧ l9.toInt ≤ r9.toInt ∧ r9.toInt ≤ z ∧ 0 ≤ w9.toInt ∧ w9.toInt ≤ 255 ∧ r9.toInt - l9.toInt ≤ k9.toInt ∧ oz' = oz) ∨ (∃ (t' : Nat) (fz' : Nat) (fn' : Nat → Int32) (fs' : Nat → Int32) (oz' : Nat) (of' : Nat → Int64), u = (wl_k_X8_across cI cJ cK x0 xn xl xt xo xf xs xp xq xr xc f1 f2 o1 (nI z) nf (nI fz') fn' fs' (nI oz') of') ∧ r = nI t' ∧ fz' ≤ 64 ∧ oz' ≤ 64 ∧ 0 ≤ l9.toInt ∧ l9.toInt ≤ r9.toInt ∧ r9.toInt ≤ z ∧ 0 ≤ w9.toInt ∧ w9.toInt ≤ 255 ∧ 0 ≤ k9.toInt ∧ t' < 256 ∧ k9.toInt < r9.toInt - l9.toInt ∧ axP (cnF nf l9.toInt.toNat r9.toInt.toNat) w9.toInt.toNat k9.toInt.toNat t' ∧ oz' = 1)) := by
  refine ctI.of (cc := cX8_across) (maxL := 7) (ret := (some .int)) (by decide) rfl (Nat.le_of_ble_eq_true rfl) ?_
  intro p e s m below meth c ls A hx hb hr hts hown hml hlocks hname hA hK hN hP hD hS hl
  have hl : lv_has ls 7 [(0, .ref x0), (1, .int l9), (2, .int r9), (3, .int w9), (4, .int k9)] := hl
  have hown : s.vm.findClass RX8 = some m.cls := hown
  have hi8 : ∀ w ∈ u_ws RX8 TX8 11, w ∈ wsX8_across := by decide +kernel
  have fl41 := hts (.fieldLink RX8 41 "PlaneColumn" "first" "LPlaneColumn$Tally;") (by decide +kernel)
  have fl9 := hts (.fieldLink RX8 9 "PlaneColumn" "numbers" "[I") (by decide +kernel)
  refine lv_aload_n hx hb dX8_across_0 rfl (lv_at hl 0 rfl) ?_
  refine lv_iload_n hx hb dX8_across_1 rfl (lv_at hl 1 rfl) ?_
  refine lv_iload_n hx hb dX8_across_2 rfl (lv_at hl 2 rfl) ?_
  refine my_gpI (my_pV (As := [.int l9, .int r9]) (rest := []) (ci := 8) ⟨hx, hb, hml, hown, hts⟩ (cwV 2 hts gX8_across_X8_isSpan rfl rfl rfl (by decide +kernel) ⟨Nat.le_of_ble_eq_true rfl, Nat.le_of_ble_eq_true rfl⟩) hN hK hP [0] rfl 0 rfl rfl rfl rfl hl.1 rfl (Nat.le_of_ble_eq_true rfl) dX8_across_3 ⟨Nat.le_of_ble_eq_true rfl, Nat.le_of_ble_eq_true rfl⟩  (k_X8_isSpan l D cI cJ cK x0 xn xl xt xo xf xs xp xq xr xc z l9 r9 (by first | assumption | omega | decide +kernel))) (fun r hp => ?_)
  rcases hp with ⟨a_1, b_2, rfl, rfl, rfl, ha_3, hb_4⟩ | ⟨rfl, ho_5⟩
  ·
    refine lv_if_eq (tgt := 21) hx hb dX8_across_6 (by decide) (fun c6 => ?_) (fun c6 => ?_)
    ·
      exact absurd c6 (by decide +kernel)
    ·
      refine lv_iload_n hx hb dX8_across_9 rfl (lv_at hl 3 rfl) ?_
      refine my_gpI (my_pS (As := [.int w9]) (rest := []) ⟨hx, hb, hml, hown, hts⟩ (va_cwS 1 hts gX8_across_X8_isNumber rfl rfl rfl (by decide +kernel) ⟨Nat.le_of_ble_eq_true rfl, Nat.le_of_ble_eq_true rfl⟩) hN hK hP [] rfl rfl hl.1 rfl (Nat.le_of_ble_eq_true rfl) dX8_across_10 ⟨Nat.le_of_ble_eq_true rfl, Nat.le_of_ble_eq_true rfl⟩  (k_X8_isNumber l D cI cJ cK w9)) (fun r hp => ?_)
      rcases hp with ⟨k_6, rfl, rfl, ha_7⟩ | ⟨rfl, ho_8⟩
      ·
        refine lv_if_eq (tgt := 21) hx hb dX8_across_13 (by decide) (fun c13 => ?_) (fun c13 => ?_)
        ·
          exact absurd c13 (by decide +kernel)
        ·
          refine lv_iload hx hb dX8_across_16 (lv_at hl 4 rfl) ?_
          refine lv_if_ge (tgt := 23) hx hb dX8_across_18 (by decide) (fun c18 => ?_) (fun c18 => ?_)
          ·
            have d18 : k9.toInt ≥ (0 : Int) := my_ge c18 rfl (by decide +kernel)
            obtain ⟨w_9, rfl, hw_9⟩ := my_natP (x := k9) (by omega)
            have hlw_9 : w_9 < 2147483648 := by have h9 := Int32.toInt_lt (nI w_9); omega
            refine lv_aload_n hx hb dX8_across_23 rfl (lv_at hl 0 rfl) ?_
            refine va_get (ci := 8) (v := .ref xf) (C := RX8) (T := TX8) (N := 11) hx hb hts hi8 hown hK hP 0 rfl rfl 5 (by decide) fl41 (fun _ h9 => h9) rfl dX8_across_24 ?_
            refine lv_aload_n hx hb dX8_across_27 rfl (lv_at hl 0 rfl) ?_
            refine va_get (ci := 8) (v := .ref xn) (C := RX8) (T := TX8) (N := 11) hx hb hts hi8 hown hK hP 0 rfl rfl 0 (by decide) fl9 (fun _ h9 => h9) rfl dX8_across_28 ?_
            refine lv_iload_n hx hb dX8_across_31 rfl (lv_at hl 1 rfl) ?_
            refine lv_iload_n hx hb dX8_across_32 rfl (lv_at hl 2 rfl) ?_
            refine my_goVS (wc := (wl_k_X6_take cI cJ cK xf f1 f2 xn (nI fz) fn fs nf)) hP hD hS hA [2, 3, 4, 1] rfl [none, some 3, some 0, some 1, some 2] (by decide +kernel) (my_cV (As := [.ref xn, .int (nI a_1), .int (nI b_2)]) (rest := []) (ci := 6) (wc := (wl_k_X6_take cI cJ cK xf f1 f2 xn (nI fz) fn fs nf)) ⟨hx, hb, hml, hown, hts⟩ (cwV 3 hts gX8_across_X6_take rfl rfl rfl (by decide +kernel) ⟨Nat.le_of_ble_eq_true rfl, Nat.le_of_ble_eq_true rfl⟩) hN hK hP hD [2, 3, 4, 1] rfl (by decide) rfl 2 rfl rfl rfl rfl hl.1 rfl (Nat.le_of_ble_eq_true rfl) dX8_across_33 ⟨Nat.le_of_ble_eq_true rfl, Nat.le_of_ble_eq_true rfl⟩  ((k_X6_take l D cI cJ cK xf f1 f2 xn fz fn fs nf a_1 b_2 (by first | assumption | omega | decide +kernel) hR_nf (by first | assumption | omega | decide +kernel) (by first | assumption | omega | decide +kernel)) _)) (fun u H locs hp hPD hS => ?_)
            obtain ⟨fz_10, fn_11, fs_12, rfl, hhz_fz_13, hnd, hn8, hfz, hsv⟩ := hp
            obtain ⟨hP, hD⟩ := hPD rfl
            have hP : va_P D vwCl (wl_k_X8_across cI cJ cK x0 xn xl xt xo xf xs xp xq xr xc f1 f2 o1 (nI z) nf (nI fz_10) fn_11 fs_12 (nI oz) of) H := hP
            have hD : va_D A (wl_k_X8_across cI cJ cK x0 xn xl xt xo xf xs xp xq xr xc f1 f2 o1 (nI z) nf (nI fz_10) fn_11 fs_12 (nI oz) of) := hD
            refine lv_iconst (v := 0) hx hb dX8_across_36 (by decide +kernel) ?_
            refine lv_istore (lv' := [(5, .int 0), (0, .ref x0), (1, .int (nI a_1)), (2, .int (nI b_2)), (3, .int (nI k_6)), (4, .int (nI w_9))]) hx hb dX8_across_37 hl (by decide) rfl (fun ls hl => ?_)
            refine lv_iconst (v := 0) hx hb dX8_across_39 (by decide +kernel) ?_
            refine lv_istore (lv' := [(6, .int 0), (5, .int 0), (0, .ref x0), (1, .int (nI a_1)), (2, .int (nI b_2)), (3, .int (nI k_6)), (4, .int (nI w_9))]) hx hb dX8_across_40 hl (by decide) rfl (fun ls hl => ?_)
            have loop42 : ∀ (n9 : Nat) (v : Nat) (t : Nat), 256 - v < n9 → (v ≤ 256) → (t = fb_sm (axF (cnF nf a_1 b_2) k_6) v) → (t ≤ w_9) → ∀ (H : Heap) (locs : List Loc) (ls : Array Slot), va_P D vwCl (wl_k_X8_across cI cJ cK x0 xn xl xt xo xf xs xp xq xr xc f1 f2 o1 (nI z) nf (nI fz_10) fn_11 fs_12 (nI oz) of) H → va_D A (wl_k_X8_across cI cJ cK x0 xn xl xt xo xf xs xp xq xr xc f1 f2 o1 (nI z) nf (nI fz_10) fn_11 fs_12 (nI oz) of) → va_S A s.heap H locs → lv_has ls 7 [(6, .int (nI v)), (5, .int (nI t)), (0, .ref x0), (1, .int (nI a_1)), (2, .int (nI b_2)), (3, .int (nI k_6)), (4, .int (nI w_9))] → W p l e ({ frames := 4, cells := 0, slots := 0, locals := 240 } : Room) s m [.ref x0, .int (nI a_1), .int (nI b_2), .int (nI k_6), .int (nI w_9)].toArray below meth c H locs 0 0 (MQ below (va_Qi (fun (r : Int32) (u : va_W) => (u = (wl_k_X8_across cI cJ cK x0 xn xl xt xo xf xs xp xq xr xc f1 f2 o1 (nI z) nf (nI fz) fn fs (nI oz) of) ∧ r = (-1) ∧ ((nI a_1).toInt < 0 ∨ (nI b_2).toInt < (nI a_1).toInt ∨ z < (nI b_2).toInt ∨ (nI k_6).toInt < 0 ∨ 255 < (nI k_6).toInt ∨ (nI w_9).toInt < 0)) ∨ (∃ (fz' : Nat) (fn' : Nat → Int32) (fs' : Nat → Int32) (oz' : Nat) (of' : Nat → Int64), u = (wl_k_X8_across cI cJ cK x0 xn xl xt xo xf xs xp xq xr xc f1 f2 o1 (nI z) nf (nI fz') fn' fs' (nI oz') of') ∧ r = (-2) ∧ fz' ≤ 64 ∧ oz' ≤ 64 ∧ 0 ≤ (nI a_1).toInt ∧ (nI a_1).toInt ≤ (nI b_2).toInt ∧ (nI b_2).toInt ≤ z ∧ 0 ≤ (nI k_6).toInt ∧ (nI k_6).toInt ≤ 255 ∧ (nI b_2).toInt - (nI a_1).toInt ≤ (nI w_9).toInt ∧ oz' = oz) ∨ (∃ (t' : Nat) (fz' : Nat) (fn' : Nat → Int32) (fs' : Nat → Int32) (oz' : Nat) (of' : Nat → Int64), u = (wl_k_X8_across cI cJ cK x0 xn xl xt xo xf xs xp xq xr xc f1 f2 o1 (nI z) nf (nI fz') fn' fs' (nI oz') of') ∧ r = nI t' ∧ fz' ≤ 64 ∧ oz' ≤ 64 ∧ 0 ≤ (nI a_1).toInt ∧ (nI a_1).toInt ≤ (nI b_2).toInt ∧ (nI b_2).toInt ≤ z ∧ 0 ≤ (nI k_6).toInt ∧ (nI k_6).toInt ≤ 255 ∧ 0 ≤ (nI w_9).toInt ∧ t' < 256 ∧ (nI w_9).toInt < (nI b_2).toInt - (nI a_1).toInt ∧ axP (cnF nf (nI a_1).toInt.toNat (nI b_2).toInt.toNat) (nI k_6).toInt.toNat (nI w_9).toInt.toNat t' ∧ oz' = 1)) (my_B D (tyIJ cI cJ cK) A) A) [.ref x0, .int (nI a_1), .int (nI b_2), .int (nI k_6), .int (nI w_9)].toArray s 0 0 A) (F0 m 42 ls []) := by
              intro n9
              induction n9 with
              | zero =>
                intro v t hn9
                exact absurd hn9 (Nat.not_lt_zero _)
              | succ n9 ih42 =>
                intro v t hn9 hk_v ht htk H locs ls hP hD hS hl
                have hsc := fb_sm_succ (axF (cnF nf a_1 b_2) k_6) v
                have hsm0 := axF_sum hR_nf (x := k_6) (a := a_1) (b := b_2) (by omega) (by omega)
                have hmo0 := sm_mono (axF (cnF nf a_1 b_2) k_6) (show v ≤ 256 by omega)
                refine lv_iload hx hb dX8_across_42 (lv_at hl 0 rfl) ?_
                refine lv_sipush (v := 255) hx hb dX8_across_44 (by decide +kernel) ?_
                refine lv_icmp_gt (tgt := 91) hx hb dX8_across_47 (by decide) (fun c47 => ?_) (fun c47 => ?_)
                ·
                  have d47 : ((v : Nat) : Int) > (255 : Int) := my_gt c47 (nI_toInt (by omega)) (by decide +kernel)
                  have hsm := axF_sum hR_nf (x := k_6) (a := a_1) (b := b_2) (by omega) (by omega)
                  have ht6 := ht
                  rw [show v = 256 from (by omega)] at ht6
                  refine lv_bipush (v := (-2)) hx hb dX8_across_91 (by decide +kernel) ?_
                  have hsI_l9 : (nI a_1).toInt = ((a_1 : Nat) : Int) := nI_toInt (by omega)
                  have hsN_l9 : (nI a_1).toInt.toNat = a_1 := nIt (by omega)
                  have hsI_r9 : (nI b_2).toInt = ((b_2 : Nat) : Int) := nI_toInt (by omega)
                  have hsN_r9 : (nI b_2).toInt.toNat = b_2 := nIt (by omega)
                  have hsI_w9 : (nI k_6).toInt = ((k_6 : Nat) : Int) := nI_toInt (by omega)
                  have hsN_w9 : (nI k_6).toInt.toNat = k_6 := nIt (by omega)
                  have hsI_k9 : (nI w_9).toInt = ((w_9 : Nat) : Int) := nI_toInt (by omega)
                  have hsN_k9 : (nI w_9).toInt.toNat = w_9 := nIt (by omega)
                  exact my_retI hx hb hr hlocks hK hS (wl_k_X8_across cI cJ cK x0 xn xl xt xo xf xs xp xq xr xc f1 f2 o1 (nI z) nf (nI fz_10) fn_11 fs_12 (nI oz) of) hP hD (Or.inr (Or.inl ⟨fz_10, fn_11, fs_12, oz, of, rfl, rfl, (by first | assumption | omega | trivial | decide +kernel), (by first | assumption | omega | trivial | decide +kernel), (by first | assumption | omega | trivial | decide +kernel), (by first | assumption | omega | trivial | decide +kernel), (by first | assumption | omega | trivial | decide +kernel), (by first | assumption | omega | trivial | decide +kernel), (by first | assumption | omega | trivial | decide +kernel), (by first | assumption | omega | trivial | decide +kernel), (by first | assumption | omega | trivial | decide +kernel)⟩)) dX8_across_93
                ·
                  have d47 : ((v : Nat) : Int) ≤ (255 : Int) := my_ngt c47 (nI_toInt (by omega)) (by decide +kernel)
                  refine lv_iload hx hb dX8_across_50 (lv_at hl 1 rfl) ?_
                  refine lv_aload_n hx hb dX8_across_52 rfl (lv_at hl 2 rfl) ?_
                  refine va_get (ci := 8) (v := .ref xf) (C := RX8) (T := TX8) (N := 11) hx hb hts hi8 hown hK hP 0 rfl rfl 5 (by decide) fl41 (fun _ h9 => h9) rfl dX8_across_53 ?_
                  refine lv_iload hx hb dX8_across_56 (lv_at hl 0 rfl) ?_
                  refine lv_iload_n hx hb dX8_across_58 rfl (lv_at hl 5 rfl) ?_
                  refine lv_ixor hx hb dX8_across_59 ?_
                  refine my_eqi (y := nI (v ^^^ k_6)) (fb_xorI _ _) ?_
                  try have hxl_14 : v ^^^ k_6 < 256 := Nat.xor_lt_two_pow (n := 8) (by omega) (by omega)
                  refine my_gpI (my_pV (As := [.int (nI (v ^^^ k_6))]) (rest := [.int (nI t)]) (ci := 6) ⟨hx, hb, hml, hown, hts⟩ (cwV 1 hts gX8_across_X6_timesOf rfl rfl rfl (by decide +kernel) ⟨Nat.le_of_ble_eq_true rfl, Nat.le_of_ble_eq_true rfl⟩) hN hK hP [2, 3] rfl 2 rfl rfl rfl rfl hl.1 rfl (Nat.le_of_ble_eq_true rfl) dX8_across_60 ⟨Nat.le_of_ble_eq_true rfl, Nat.le_of_ble_eq_true rfl⟩  (kt_X6_timesOf l D cI cJ cK xf f1 f2 fz_10 fn_11 (v ^^^ k_6) (cnF nf a_1 b_2) (by first | assumption | omega | decide +kernel) (by first | assumption | omega | decide +kernel) (hn8) (cnF_64 (by omega)))) (fun r hp => ?_)
                  obtain ⟨t_15, rfl, htm, hq_16⟩ := hp
                  refine lv_iadd hx hb dX8_across_63 ?_
                  refine my_eqi (y := nI (t + t_15)) (nI_add _ _) ?_
                  refine lv_istore (lv' := [(5, .int (nI (t + t_15))), (6, .int (nI v)), (0, .ref x0), (1, .int (nI a_1)), (2, .int (nI b_2)), (3, .int (nI k_6)), (4, .int (nI w_9))]) hx hb dX8_across_64 hl (by decide) rfl (fun ls hl => ?_)
                  refine lv_iload hx hb dX8_across_66 (lv_at hl 6 rfl) ?_
                  refine lv_iload hx hb dX8_across_68 (lv_at hl 0 rfl) ?_
                  refine lv_icmp_ge (tgt := 85) hx hb dX8_across_70 (by decide) (fun c70 => ?_) (fun c70 => ?_)
                  ·
                    have d70 : ((w_9 : Nat) : Int) ≥ ((t + t_15 : Nat) : Int) := my_ge c70 (nI_toInt (by omega)) (nI_toInt (by omega))
                    refine lv_iinc (v := nI (v + 1)) (lv' := [(6, .int (nI (v + 1))), (5, .int (nI (t + t_15))), (0, .ref x0), (1, .int (nI a_1)), (2, .int (nI b_2)), (3, .int (nI k_6)), (4, .int (nI w_9))]) hx hb dX8_across_85 hl (k := 1) rfl (my_incN v 1 (by decide +kernel)) (by decide) rfl (fun ls hl => ?_)
                    refine lv_goto (tgt := 42) hx hb dX8_across_88 (by decide) ?_
                    exact ih42  (v + 1) (t + t_15) (by omega) (by first | assumption | omega | decide +kernel) (by have e9 : (axF (cnF nf a_1 b_2) k_6) v = (cnF nf a_1 b_2) (v ^^^ k_6) := rfl; omega) (by first | assumption | omega | decide +kernel) _ _ ls hP hD hS (lv_sub hl [0, 1, 2, 3, 4, 5, 6] rfl)
                  ·
                    have d70 : ((w_9 : Nat) : Int) < ((t + t_15 : Nat) : Int) := my_nge c70 (nI_toInt (by omega)) (nI_toInt (by omega))
                    have e9 : (axF (cnF nf a_1 b_2) k_6) v = (cnF nf a_1 b_2) (v ^^^ k_6) := rfl
                    have hsm := axF_sum hR_nf (x := k_6) (a := a_1) (b := b_2) (by omega) (by omega)
                    have hmo := sm_mono (axF (cnF nf a_1 b_2) k_6) (show v + 1 ≤ 256 by omega)
                    refine lv_aload_n hx hb dX8_across_73 rfl (lv_at hl 2 rfl) ?_
                    refine lv_iload hx hb dX8_across_74 (lv_at hl 1 rfl) ?_
                    refine lv_iload_n hx hb dX8_across_76 rfl (lv_at hl 5 rfl) ?_
                    refine lv_ixor hx hb dX8_across_77 ?_
                    refine my_eqi (y := nI (v ^^^ k_6)) (fb_xorI _ _) ?_
                    try have hxl_17 : v ^^^ k_6 < 256 := Nat.xor_lt_two_pow (n := 8) (by omega) (by omega)
                    refine lv_i2l (v := lN (v ^^^ k_6)) hx hb dX8_across_78 (nI_l (by omega)) ?_
                    refine my_goVS (wc := (wl_k_X8_tell cI cJ cK x0 xn xl xt xo xf xs xp xq xr xc o1 (nI z) (nI oz) of)) hP hD hS hA [0, 5, 6] rfl [some 0, none, none, none, none, some 1, some 2] (by decide +kernel) (my_cV (As := [.long (lN (v ^^^ k_6))]) (rest := []) (ci := 8) (wc := (wl_k_X8_tell cI cJ cK x0 xn xl xt xo xf xs xp xq xr xc o1 (nI z) (nI oz) of)) ⟨hx, hb, hml, hown, hts⟩ (cwV 1 hts gX8_across_X8_tell rfl rfl rfl (by decide +kernel) ⟨Nat.le_of_ble_eq_true rfl, Nat.le_of_ble_eq_true rfl⟩) hN hK hP hD [0, 5, 6] rfl (by decide) rfl 0 rfl rfl rfl rfl hl.1 rfl (Nat.le_of_ble_eq_true rfl) dX8_across_79 ⟨Nat.le_of_ble_eq_true rfl, Nat.le_of_ble_eq_true rfl⟩  ((k_X8_tell l D cI cJ cK x0 xn xl xt xo xf xs xp xq xr xc o1 z oz of (lN (v ^^^ k_6)) (by first | assumption | omega | decide +kernel) (by first | assumption | omega | decide +kernel)) _)) (fun u H locs hp hPD hS => ?_)
                    obtain ⟨of_18, rfl, hv0, ht_19⟩ := hp
                    obtain ⟨hP, hD⟩ := hPD rfl
                    have hP : va_P D vwCl (wl_k_X8_across cI cJ cK x0 xn xl xt xo xf xs xp xq xr xc f1 f2 o1 (nI z) nf (nI fz_10) fn_11 fs_12 1 of_18) H := hP
                    have hD : va_D A (wl_k_X8_across cI cJ cK x0 xn xl xt xo xf xs xp xq xr xc f1 f2 o1 (nI z) nf (nI fz_10) fn_11 fs_12 1 of_18) := hD
                    refine lv_iload hx hb dX8_across_82 (lv_at hl 1 rfl) ?_
                    have hsI_l9 : (nI a_1).toInt = ((a_1 : Nat) : Int) := nI_toInt (by omega)
                    have hsN_l9 : (nI a_1).toInt.toNat = a_1 := nIt (by omega)
                    have hsI_r9 : (nI b_2).toInt = ((b_2 : Nat) : Int) := nI_toInt (by omega)
                    have hsN_r9 : (nI b_2).toInt.toNat = b_2 := nIt (by omega)
                    have hsI_w9 : (nI k_6).toInt = ((k_6 : Nat) : Int) := nI_toInt (by omega)
                    have hsN_w9 : (nI k_6).toInt.toNat = k_6 := nIt (by omega)
                    have hsI_k9 : (nI w_9).toInt = ((w_9 : Nat) : Int) := nI_toInt (by omega)
                    have hsN_k9 : (nI w_9).toInt.toNat = w_9 := nIt (by omega)
                    exact my_retI hx hb hr hlocks hK hS (wl_k_X8_across cI cJ cK x0 xn xl xt xo xf xs xp xq xr xc f1 f2 o1 (nI z) nf (nI fz_10) fn_11 fs_12 1 of_18) hP hD (Or.inr (Or.inr (⟨v, fz_10, fn_11, fs_12, 1, of_18, rfl, rfl, (by first | assumption | omega | trivial | decide +kernel), (by first | assumption | omega | trivial | decide +kernel), (by first | assumption | omega | trivial | decide +kernel), (by first | assumption | omega | trivial | decide +kernel), (by first | assumption | omega | trivial | decide +kernel), (by first | assumption | omega | trivial | decide +kernel), (by first | assumption | omega | trivial | decide +kernel), (by first | assumption | omega | trivial | decide +kernel), (by first | assumption | omega | trivial | decide +kernel), (by first | assumption | omega | trivial | decide +kernel), (by rw [hsN_l9, hsN_r9, hsN_w9, hsN_k9]; exact ax_mk (by omega) (by omega)), (by first | assumption | omega | trivial | decide +kernel)⟩))) dX8_across_84
            exact loop42 ((256 - 0) + 1) 0 0 (Nat.lt_succ_self _) (by first | assumption | omega | decide +kernel) (rfl) (by first | assumption | omega | decide +kernel) _ _ ls hP hD hS (lv_sub hl [0, 1, 2, 3, 4, 5, 6] rfl)
          ·
            have d18 : k9.toInt < (0 : Int) := my_nge c18 rfl (by decide +kernel)
            refine lv_iconst (v := (-1)) hx hb dX8_across_21 (by decide +kernel) ?_
            have hsI_l9 : (nI a_1).toInt = ((a_1 : Nat) : Int) := nI_toInt (by omega)
            have hsN_l9 : (nI a_1).toInt.toNat = a_1 := nIt (by omega)
            have hsI_r9 : (nI b_2).toInt = ((b_2 : Nat) : Int) := nI_toInt (by omega)
            have hsN_r9 : (nI b_2).toInt.toNat = b_2 := nIt (by omega)
            have hsI_w9 : (nI k_6).toInt = ((k_6 : Nat) : Int) := nI_toInt (by omega)
            have hsN_w9 : (nI k_6).toInt.toNat = k_6 := nIt (by omega)
            exact my_retI hx hb hr hlocks hK hS (wl_k_X8_across cI cJ cK x0 xn xl xt xo xf xs xp xq xr xc f1 f2 o1 (nI z) nf (nI fz) fn fs (nI oz) of) hP hD (Or.inl ⟨rfl, rfl, (by first | assumption | omega | trivial | decide +kernel)⟩) dX8_across_22
      ·
        refine lv_if_eq (tgt := 21) hx hb dX8_across_13 (by decide) (fun c13 => ?_) (fun c13 => ?_)
        ·
          refine lv_iconst (v := (-1)) hx hb dX8_across_21 (by decide +kernel) ?_
          have hsI_l9 : (nI a_1).toInt = ((a_1 : Nat) : Int) := nI_toInt (by omega)
          have hsN_l9 : (nI a_1).toInt.toNat = a_1 := nIt (by omega)
          have hsI_r9 : (nI b_2).toInt = ((b_2 : Nat) : Int) := nI_toInt (by omega)
          have hsN_r9 : (nI b_2).toInt.toNat = b_2 := nIt (by omega)
          exact my_retI hx hb hr hlocks hK hS (wl_k_X8_across cI cJ cK x0 xn xl xt xo xf xs xp xq xr xc f1 f2 o1 (nI z) nf (nI fz) fn fs (nI oz) of) hP hD (Or.inl ⟨rfl, rfl, (by first | assumption | omega | trivial | decide +kernel)⟩) dX8_across_22
        ·
          exact absurd c13 (by decide +kernel)
  ·
    refine lv_if_eq (tgt := 21) hx hb dX8_across_6 (by decide) (fun c6 => ?_) (fun c6 => ?_)
    ·
      refine lv_iconst (v := (-1)) hx hb dX8_across_21 (by decide +kernel) ?_
      exact my_retI hx hb hr hlocks hK hS (wl_k_X8_across cI cJ cK x0 xn xl xt xo xf xs xp xq xr xc f1 f2 o1 (nI z) nf (nI fz) fn fs (nI oz) of) hP hD (Or.inl ⟨rfl, rfl, (by first | assumption | omega | trivial | decide +kernel)⟩) dX8_across_22
    ·
      exact absurd c6 (by decide +kernel)
abbrev wl_k_X8_turned (cI cJ cK : ClassId) (x0 : Nat) (xn : Nat) (xl : Nat) (xt : Nat) (xo : Nat) (xf : Nat) (xs : Nat) (xp : Nat) (xq : Nat) (xr : Nat) (xc : Nat) (o1 : Nat) (v0_ : Int32) (v1_ : Nat → Int32) (v2_ : Int32) (v3_ : Nat → Int64) : va_W := [(x0, .inr (8, [.ref xn, .int v0_, .ref xl, .ref xt, .ref xo, .ref xf, .ref xs, .ref xp, .ref xq, .ref xr, .ref xc])), (xn, .inl (cI, 64, .inl v1_)), (xo, .inr (7, [.ref o1, .int v2_])), (o1, .inl (cJ, 64, .inr (.inl v3_)))]
set_option maxHeartbeats 4000000 in
set_option maxRecDepth 100000 in
theorem k_X8_turned (l : Launch) (D : va_G) (cI cJ cK : ClassId) (x0 : Nat) (xn : Nat) (xl : Nat) (xt : Nat) (xo : Nat) (xf : Nat) (xs : Nat) (xp : Nat) (xq : Nat) (xr : Nat) (xc : Nat) (o1 : Nat) (z : Nat) (nf : Nat → Int32) (oz : Nat) (of : Nat → Int64) (l9 : Int32) (r9 : Int32) (hz_z : z ≤ 64) (hR_nf : RB 0 255 nf) (hz_oz : oz ≤ 64) : ctI l yX8_turned wsX8_turned ({ frames := 2, cells := 0, slots := 0, locals := 120 } : Room) D (tyIJ cI cJ cK) [.ref x0, .int l9, .int r9] (wl_k_X8_turned cI cJ cK x0 xn xl xt xo xf xs xp xq xr xc o1 (nI z) nf (nI oz) of) (fun (r : Int32) (u : va_W) => (u = (wl_k_X8_turned cI cJ cK x0 xn xl xt xo xf xs xp xq xr xc o1 (nI z) nf (nI oz) of) ∧ r = (-1) ∧ (l9.toInt < 0 ∨ r9.toInt < l9.toInt ∨ z < r9.toInt)) ∨ (∃ (t' : Nat) (oz' : Nat) (of' : Nat → Int64), u = (wl_k_X8_turned cI cJ cK x0 xn xl xt xo xf xs xp xq xr xc o1 (nI z) nf (nI oz') of') ∧ r = nI t' ∧ oz' ≤ 64 ∧ 0 ≤ l9.toInt ∧ l9.toInt ≤ r9.toInt ∧ r9.toInt ≤ z ∧ t' = tnO nf l9.toInt.toNat r9.toInt.toNat r9.toInt.toNat ∧ oz' = 1)) := by
  refine ctI.of (cc := cX8_turned) (maxL := 7) (ret := (some .int)) (by decide) rfl (Nat.le_of_ble_eq_true rfl) ?_
  intro p e s m below meth c ls A hx hb hr hts hown hml hlocks hname hA hK hN hP hD hS hl
  have hl : lv_has ls 7 [(0, .ref x0), (1, .int l9), (2, .int r9)] := hl
  have hown : s.vm.findClass RX8 = some m.cls := hown
  have hi8 : ∀ w ∈ u_ws RX8 TX8 11, w ∈ wsX8_turned := by decide +kernel
  have fl9 := hts (.fieldLink RX8 9 "PlaneColumn" "numbers" "[I") (by decide +kernel)
  refine lv_aload_n hx hb dX8_turned_0 rfl (lv_at hl 0 rfl) ?_
  refine lv_iload_n hx hb dX8_turned_1 rfl (lv_at hl 1 rfl) ?_
  refine lv_iload_n hx hb dX8_turned_2 rfl (lv_at hl 2 rfl) ?_
  refine my_gpI (my_pV (As := [.int l9, .int r9]) (rest := []) (ci := 8) ⟨hx, hb, hml, hown, hts⟩ (cwV 2 hts gX8_turned_X8_isSpan rfl rfl rfl (by decide +kernel) ⟨Nat.le_of_ble_eq_true rfl, Nat.le_of_ble_eq_true rfl⟩) hN hK hP [0] rfl 0 rfl rfl rfl rfl hl.1 rfl (Nat.le_of_ble_eq_true rfl) dX8_turned_3 ⟨Nat.le_of_ble_eq_true rfl, Nat.le_of_ble_eq_true rfl⟩  (k_X8_isSpan l D cI cJ cK x0 xn xl xt xo xf xs xp xq xr xc z l9 r9 (by first | assumption | omega | decide +kernel))) (fun r hp => ?_)
  rcases hp with ⟨a_1, b_2, rfl, rfl, rfl, ha_3, hb_4⟩ | ⟨rfl, ho_5⟩
  ·
    refine lv_if_ne (tgt := 11) hx hb dX8_turned_6 (by decide) (fun c6 => ?_) (fun c6 => ?_)
    ·
      refine lv_iconst (v := 0) hx hb dX8_turned_11 (by decide +kernel) ?_
      refine lv_istore_n (lv' := [(3, .int 0), (0, .ref x0), (1, .int (nI a_1)), (2, .int (nI b_2))]) hx hb dX8_turned_12 rfl hl (by decide) rfl (fun ls hl => ?_)
      refine lv_iconst (v := 0) hx hb dX8_turned_13 (by decide +kernel) ?_
      refine lv_istore (lv' := [(4, .int 0), (3, .int 0), (0, .ref x0), (1, .int (nI a_1)), (2, .int (nI b_2))]) hx hb dX8_turned_14 hl (by decide) rfl (fun ls hl => ?_)
      refine lv_iload_n hx hb dX8_turned_16 rfl (lv_at hl 3 rfl) ?_
      refine lv_istore (lv' := [(5, .int (nI a_1)), (4, .int 0), (3, .int 0), (0, .ref x0), (1, .int (nI a_1)), (2, .int (nI b_2))]) hx hb dX8_turned_17 hl (by decide) rfl (fun ls hl => ?_)
      have loop19 : ∀ (n9 : Nat) (k : Nat) (y4_19 : Int32) (t : Nat), 64 - k < n9 → (k ≤ 64) → (a_1 ≤ k) → (k ≤ b_2) → (t = tnO nf a_1 b_2 k) → ∀ (H : Heap) (locs : List Loc) (ls : Array Slot), va_P D vwCl (wl_k_X8_turned cI cJ cK x0 xn xl xt xo xf xs xp xq xr xc o1 (nI z) nf (nI oz) of) H → va_D A (wl_k_X8_turned cI cJ cK x0 xn xl xt xo xf xs xp xq xr xc o1 (nI z) nf (nI oz) of) → va_S A s.heap H locs → lv_has ls 7 [(5, .int (nI k)), (4, .int y4_19), (3, .int (nI t)), (0, .ref x0), (1, .int (nI a_1)), (2, .int (nI b_2))] → W p l e ({ frames := 2, cells := 0, slots := 0, locals := 120 } : Room) s m [.ref x0, .int (nI a_1), .int (nI b_2)].toArray below meth c H locs 0 0 (MQ below (va_Qi (fun (r : Int32) (u : va_W) => (u = (wl_k_X8_turned cI cJ cK x0 xn xl xt xo xf xs xp xq xr xc o1 (nI z) nf (nI oz) of) ∧ r = (-1) ∧ ((nI a_1).toInt < 0 ∨ (nI b_2).toInt < (nI a_1).toInt ∨ z < (nI b_2).toInt)) ∨ (∃ (t' : Nat) (oz' : Nat) (of' : Nat → Int64), u = (wl_k_X8_turned cI cJ cK x0 xn xl xt xo xf xs xp xq xr xc o1 (nI z) nf (nI oz') of') ∧ r = nI t' ∧ oz' ≤ 64 ∧ 0 ≤ (nI a_1).toInt ∧ (nI a_1).toInt ≤ (nI b_2).toInt ∧ (nI b_2).toInt ≤ z ∧ t' = tnO nf (nI a_1).toInt.toNat (nI b_2).toInt.toNat (nI b_2).toInt.toNat ∧ oz' = 1)) (my_B D (tyIJ cI cJ cK) A) A) [.ref x0, .int (nI a_1), .int (nI b_2)].toArray s 0 0 A) (F0 m 19 ls []) := by
        intro n9
        induction n9 with
        | zero =>
          intro k y4_19 t hn9
          exact absurd hn9 (Nat.not_lt_zero _)
        | succ n9 ih19 =>
          intro k y4_19 t hn9 hk_k hak hkb ht H locs ls hP hD hS hl
          refine lv_iload hx hb dX8_turned_19 (lv_at hl 0 rfl) ?_
          refine lv_iload_n hx hb dX8_turned_21 rfl (lv_at hl 5 rfl) ?_
          refine lv_icmp_ge (tgt := 92) hx hb dX8_turned_22 (by decide) (fun c22 => ?_) (fun c22 => ?_)
          ·
            have d22 : ((k : Nat) : Int) ≥ ((b_2 : Nat) : Int) := my_ge c22 (nI_toInt (by omega)) (nI_toInt (by omega))
            have hke : k = b_2 := by omega
            refine lv_aload_n hx hb dX8_turned_92 rfl (lv_at hl 3 rfl) ?_
            refine lv_iload hx hb dX8_turned_93 (lv_at hl 1 rfl) ?_
            refine lv_i2l (v := y4_19.toInt64) hx hb dX8_turned_95 rfl ?_
            refine my_goVS (wc := (wl_k_X8_tell cI cJ cK x0 xn xl xt xo xf xs xp xq xr xc o1 (nI z) (nI oz) of)) hP hD hS hA [0, 2, 3] rfl [some 0, none, some 1, some 2] (by decide +kernel) (my_cV (As := [.long y4_19.toInt64]) (rest := []) (ci := 8) (wc := (wl_k_X8_tell cI cJ cK x0 xn xl xt xo xf xs xp xq xr xc o1 (nI z) (nI oz) of)) ⟨hx, hb, hml, hown, hts⟩ (cwV 1 hts gX8_turned_X8_tell rfl rfl rfl (by decide +kernel) ⟨Nat.le_of_ble_eq_true rfl, Nat.le_of_ble_eq_true rfl⟩) hN hK hP hD [0, 2, 3] rfl (by decide) rfl 0 rfl rfl rfl rfl hl.1 rfl (Nat.le_of_ble_eq_true rfl) dX8_turned_96 ⟨Nat.le_of_ble_eq_true rfl, Nat.le_of_ble_eq_true rfl⟩  ((k_X8_tell l D cI cJ cK x0 xn xl xt xo xf xs xp xq xr xc o1 z oz of y4_19.toInt64 (by first | assumption | omega | decide +kernel) (by first | assumption | omega | decide +kernel)) _)) (fun u H locs hp hPD hS => ?_)
            obtain ⟨of_6, rfl, hv0, ht_7⟩ := hp
            obtain ⟨hP, hD⟩ := hPD rfl
            have hP : va_P D vwCl (wl_k_X8_turned cI cJ cK x0 xn xl xt xo xf xs xp xq xr xc o1 (nI z) nf 1 of_6) H := hP
            have hD : va_D A (wl_k_X8_turned cI cJ cK x0 xn xl xt xo xf xs xp xq xr xc o1 (nI z) nf 1 of_6) := hD
            refine lv_iload_n hx hb dX8_turned_99 rfl (lv_at hl 2 rfl) ?_
            have hsI_l9 : (nI a_1).toInt = ((a_1 : Nat) : Int) := nI_toInt (by omega)
            have hsN_l9 : (nI a_1).toInt.toNat = a_1 := nIt (by omega)
            have hsI_r9 : (nI b_2).toInt = ((b_2 : Nat) : Int) := nI_toInt (by omega)
            have hsN_r9 : (nI b_2).toInt.toNat = b_2 := nIt (by omega)
            exact my_retI hx hb hr hlocks hK hS (wl_k_X8_turned cI cJ cK x0 xn xl xt xo xf xs xp xq xr xc o1 (nI z) nf 1 of_6) hP hD (Or.inr (⟨t, 1, of_6, rfl, rfl, (by first | assumption | omega | trivial | decide +kernel), (by first | assumption | omega | trivial | decide +kernel), (by first | assumption | omega | trivial | decide +kernel), (by first | assumption | omega | trivial | decide +kernel), (by rw [hsN_l9, hsN_r9]; rw [← hke] at ht ⊢; exact ht), (by first | assumption | omega | trivial | decide +kernel)⟩)) dX8_turned_100
          ·
            have d22 : ((k : Nat) : Int) < ((b_2 : Nat) : Int) := my_nge c22 (nI_toInt (by omega)) (nI_toInt (by omega))
            refine lv_iload hx hb dX8_turned_25 (lv_at hl 0 rfl) ?_
            refine lv_iconst (v := 1) hx hb dX8_turned_27 (by decide +kernel) ?_
            refine lv_iadd hx hb dX8_turned_28 ?_
            refine my_eqi (y := nI (k + 1)) (my_addN k 1) ?_
            refine lv_istore (lv' := [(6, .int (nI (k + 1))), (5, .int (nI k)), (4, .int y4_19), (3, .int (nI t)), (0, .ref x0), (1, .int (nI a_1)), (2, .int (nI b_2))]) hx hb dX8_turned_29 hl (by decide) rfl (fun ls hl => ?_)
            have loop31 : ∀ (n9 : Nat) (j : Nat) (y4_31 : Int32) (t2 : Nat), 64 - j < n9 → (j ≤ 64) → (j ≤ b_2) → (k + 1 ≤ j) → (t2 = tnO nf a_1 b_2 k + tnI nf k (k + 1) j) → ∀ (H : Heap) (locs : List Loc) (ls : Array Slot), va_P D vwCl (wl_k_X8_turned cI cJ cK x0 xn xl xt xo xf xs xp xq xr xc o1 (nI z) nf (nI oz) of) H → va_D A (wl_k_X8_turned cI cJ cK x0 xn xl xt xo xf xs xp xq xr xc o1 (nI z) nf (nI oz) of) → va_S A s.heap H locs → lv_has ls 7 [(6, .int (nI j)), (5, .int (nI k)), (4, .int y4_31), (3, .int (nI t2)), (0, .ref x0), (1, .int (nI a_1)), (2, .int (nI b_2))] → W p l e ({ frames := 2, cells := 0, slots := 0, locals := 120 } : Room) s m [.ref x0, .int (nI a_1), .int (nI b_2)].toArray below meth c H locs 0 0 (MQ below (va_Qi (fun (r : Int32) (u : va_W) => (u = (wl_k_X8_turned cI cJ cK x0 xn xl xt xo xf xs xp xq xr xc o1 (nI z) nf (nI oz) of) ∧ r = (-1) ∧ ((nI a_1).toInt < 0 ∨ (nI b_2).toInt < (nI a_1).toInt ∨ z < (nI b_2).toInt)) ∨ (∃ (t' : Nat) (oz' : Nat) (of' : Nat → Int64), u = (wl_k_X8_turned cI cJ cK x0 xn xl xt xo xf xs xp xq xr xc o1 (nI z) nf (nI oz') of') ∧ r = nI t' ∧ oz' ≤ 64 ∧ 0 ≤ (nI a_1).toInt ∧ (nI a_1).toInt ≤ (nI b_2).toInt ∧ (nI b_2).toInt ≤ z ∧ t' = tnO nf (nI a_1).toInt.toNat (nI b_2).toInt.toNat (nI b_2).toInt.toNat ∧ oz' = 1)) (my_B D (tyIJ cI cJ cK) A) A) [.ref x0, .int (nI a_1), .int (nI b_2)].toArray s 0 0 A) (F0 m 31 ls []) := by
              intro n9
              induction n9 with
              | zero =>
                intro j y4_31 t2 hn9
                exact absurd hn9 (Nat.not_lt_zero _)
              | succ n9 ih31 =>
                intro j y4_31 t2 hn9 hk_j hjb hkj ht2 H locs ls hP hD hS hl
                refine lv_iload hx hb dX8_turned_31 (lv_at hl 0 rfl) ?_
                refine lv_iload_n hx hb dX8_turned_33 rfl (lv_at hl 6 rfl) ?_
                refine lv_icmp_ge (tgt := 86) hx hb dX8_turned_34 (by decide) (fun c34 => ?_) (fun c34 => ?_)
                ·
                  have d34 : ((j : Nat) : Int) ≥ ((b_2 : Nat) : Int) := my_ge c34 (nI_toInt (by omega)) (nI_toInt (by omega))
                  refine lv_iinc (v := nI (k + 1)) (lv' := [(5, .int (nI (k + 1))), (6, .int (nI j)), (4, .int y4_31), (3, .int (nI t2)), (0, .ref x0), (1, .int (nI a_1)), (2, .int (nI b_2))]) hx hb dX8_turned_86 hl (k := 1) rfl (my_incN k 1 (by decide +kernel)) (by decide) rfl (fun ls hl => ?_)
                  refine lv_goto (tgt := 19) hx hb dX8_turned_89 (by decide) ?_
                  exact ih19  (k + 1) y4_31 t2 (by omega) (by first | assumption | omega | decide +kernel) (by first | assumption | omega | decide +kernel) (by first | assumption | omega | decide +kernel) (tnO_s (by rw [ht2, show j = b_2 from (by omega)]) (by omega)) _ _ ls hP hD hS (lv_sub hl [0, 2, 3, 4, 5, 6] rfl)
                ·
                  have d34 : ((j : Nat) : Int) < ((b_2 : Nat) : Int) := my_nge c34 (nI_toInt (by omega)) (nI_toInt (by omega))
                  refine lv_aload_n hx hb dX8_turned_37 rfl (lv_at hl 4 rfl) ?_
                  refine va_get (ci := 8) (v := .ref xn) (C := RX8) (T := TX8) (N := 11) hx hb hts hi8 hown hK hP 0 rfl rfl 0 (by decide) fl9 (fun _ h9 => h9) rfl dX8_turned_38 ?_
                  refine lv_iload hx hb dX8_turned_41 (lv_at hl 1 rfl) ?_
                  refine va_iald hx hb hK hP 1 0 rfl rfl (vp_in_nI (by omega) (by omega)) dX8_turned_43 ?_
                  refine my_eqi (y := nf k) (congrArg nf (nI_clamp (by omega))) ?_
                  have hb_8 := hR_nf k
                  refine lv_aload_n hx hb dX8_turned_44 rfl (lv_at hl 4 rfl) ?_
                  refine va_get (ci := 8) (v := .ref xn) (C := RX8) (T := TX8) (N := 11) hx hb hts hi8 hown hK hP 0 rfl rfl 0 (by decide) fl9 (fun _ h9 => h9) rfl dX8_turned_45 ?_
                  refine lv_iload hx hb dX8_turned_48 (lv_at hl 0 rfl) ?_
                  refine va_iald hx hb hK hP 1 0 rfl rfl (vp_in_nI (by omega) (by omega)) dX8_turned_50 ?_
                  refine my_eqi (y := nf j) (congrArg nf (nI_clamp (by omega))) ?_
                  have hb_9 := hR_nf j
                  refine lv_icmp_le (tgt := 60) hx hb dX8_turned_51 (by decide) (fun c51 => ?_) (fun c51 => ?_)
                  ·
                    have d51 : (nf k).toInt ≤ (nf j).toInt := my_le c51 rfl rfl
                    refine lv_aload_n hx hb dX8_turned_60 rfl (lv_at hl 4 rfl) ?_
                    refine va_get (ci := 8) (v := .ref xn) (C := RX8) (T := TX8) (N := 11) hx hb hts hi8 hown hK hP 0 rfl rfl 0 (by decide) fl9 (fun _ h9 => h9) rfl dX8_turned_61 ?_
                    refine lv_iload hx hb dX8_turned_64 (lv_at hl 1 rfl) ?_
                    refine va_iald hx hb hK hP 1 0 rfl rfl (vp_in_nI (by omega) (by omega)) dX8_turned_66 ?_
                    refine my_eqi (y := nf k) (congrArg nf (nI_clamp (by omega))) ?_
                    have hb_10 := hR_nf k
                    refine lv_aload_n hx hb dX8_turned_67 rfl (lv_at hl 4 rfl) ?_
                    refine va_get (ci := 8) (v := .ref xn) (C := RX8) (T := TX8) (N := 11) hx hb hts hi8 hown hK hP 0 rfl rfl 0 (by decide) fl9 (fun _ h9 => h9) rfl dX8_turned_68 ?_
                    refine lv_iload hx hb dX8_turned_71 (lv_at hl 0 rfl) ?_
                    refine va_iald hx hb hK hP 1 0 rfl rfl (vp_in_nI (by omega) (by omega)) dX8_turned_73 ?_
                    refine my_eqi (y := nf j) (congrArg nf (nI_clamp (by omega))) ?_
                    have hb_11 := hR_nf j
                    refine lv_icmp_ne (tgt := 80) hx hb dX8_turned_74 (by decide) (fun c74 => ?_) (fun c74 => ?_)
                    ·
                      have d74 : (nf k).toInt ≠ (nf j).toInt := my_ne c74 rfl rfl
                      refine lv_iinc (v := nI (j + 1)) (lv' := [(6, .int (nI (j + 1))), (5, .int (nI k)), (4, .int y4_31), (3, .int (nI t2)), (0, .ref x0), (1, .int (nI a_1)), (2, .int (nI b_2))]) hx hb dX8_turned_80 hl (k := 0) rfl (my_incN j 1 (by decide +kernel)) (by decide) rfl (fun ls hl => ?_)
                      refine lv_goto (tgt := 31) hx hb dX8_turned_83 (by decide) ?_
                      exact ih31  (j + 1) y4_31 t2 (by omega) (by first | assumption | omega | decide +kernel) (by first | assumption | omega | decide +kernel) (by first | assumption | omega | decide +kernel) (by first | exact tnI_y ht2 (by omega) (by omega) | exact tnI_n ht2 (by omega)) _ _ ls hP hD hS (lv_sub hl [0, 1, 2, 3, 4, 5, 6] rfl)
                    ·
                      have d74 : (nf k).toInt = (nf j).toInt := my_eq c74 rfl rfl
                      obtain ⟨z_12, ez_12⟩ : ∃ y : Int32, y = y4_31 + (1) := ⟨_, rfl⟩
                      try have tz_12 : z_12.toInt = y4_31.toInt + (1) := by rw [ez_12]; exact my_addI rfl (by decide +kernel) (by omega) (by omega)
                      refine lv_iinc (v := z_12) (lv' := [(4, .int z_12), (6, .int (nI j)), (5, .int (nI k)), (3, .int (nI t2)), (0, .ref x0), (1, .int (nI a_1)), (2, .int (nI b_2))]) hx hb dX8_turned_77 hl (k := 2) rfl (by rw [ez_12]; rfl) (by decide) rfl (fun ls hl => ?_)
                      refine lv_iinc (v := nI (j + 1)) (lv' := [(6, .int (nI (j + 1))), (4, .int z_12), (5, .int (nI k)), (3, .int (nI t2)), (0, .ref x0), (1, .int (nI a_1)), (2, .int (nI b_2))]) hx hb dX8_turned_80 hl (k := 1) rfl (my_incN j 1 (by decide +kernel)) (by decide) rfl (fun ls hl => ?_)
                      refine lv_goto (tgt := 31) hx hb dX8_turned_83 (by decide) ?_
                      exact ih31  (j + 1) z_12 t2 (by omega) (by first | assumption | omega | decide +kernel) (by first | assumption | omega | decide +kernel) (by first | assumption | omega | decide +kernel) (by first | exact tnI_y ht2 (by omega) (by omega) | exact tnI_n ht2 (by omega)) _ _ ls hP hD hS (lv_sub hl [0, 2, 1, 3, 4, 5, 6] rfl)
                  ·
                    have d51 : (nf k).toInt > (nf j).toInt := my_nle c51 rfl rfl
                    refine lv_iinc (v := nI (t2 + 1)) (lv' := [(3, .int (nI (t2 + 1))), (6, .int (nI j)), (5, .int (nI k)), (4, .int y4_31), (0, .ref x0), (1, .int (nI a_1)), (2, .int (nI b_2))]) hx hb dX8_turned_54 hl (k := 3) rfl (my_incN t2 1 (by decide +kernel)) (by decide) rfl (fun ls hl => ?_)
                    refine lv_goto (tgt := 80) hx hb dX8_turned_57 (by decide) ?_
                    refine lv_iinc (v := nI (j + 1)) (lv' := [(6, .int (nI (j + 1))), (3, .int (nI (t2 + 1))), (5, .int (nI k)), (4, .int y4_31), (0, .ref x0), (1, .int (nI a_1)), (2, .int (nI b_2))]) hx hb dX8_turned_80 hl (k := 1) rfl (my_incN j 1 (by decide +kernel)) (by decide) rfl (fun ls hl => ?_)
                    refine lv_goto (tgt := 31) hx hb dX8_turned_83 (by decide) ?_
                    exact ih31  (j + 1) y4_31 (t2 + 1) (by omega) (by first | assumption | omega | decide +kernel) (by first | assumption | omega | decide +kernel) (by first | assumption | omega | decide +kernel) (by first | exact tnI_y ht2 (by omega) (by omega) | exact tnI_n ht2 (by omega)) _ _ ls hP hD hS (lv_sub hl [0, 2, 3, 1, 4, 5, 6] rfl)
            exact loop31 ((64 - (k + 1)) + 1) (k + 1) y4_19 t (Nat.lt_succ_self _) (by first | assumption | omega | decide +kernel) (by first | assumption | omega | decide +kernel) (by first | assumption | omega | decide +kernel) (by rw [tnI_0 (Nat.le_refl _), Nat.add_zero]; exact ht) _ _ ls hP hD hS (lv_sub hl [0, 1, 2, 3, 4, 5, 6] rfl)
      have ec_13 : (0 : Int32).toInt = 0 := by decide +kernel
      exact loop19 ((64 - a_1) + 1) a_1 (0 : Int32) 0 (Nat.lt_succ_self _) (by first | assumption | omega | decide +kernel) (by first | assumption | omega | decide +kernel) (by first | assumption | omega | decide +kernel) ((tnO_0 (Nat.le_refl _)).symm) _ _ ls hP hD hS (lv_sub hl [0, 1, 2, 3, 4, 5] rfl)
    ·
      exact absurd c6 (by decide +kernel)
  ·
    refine lv_if_ne (tgt := 11) hx hb dX8_turned_6 (by decide) (fun c6 => ?_) (fun c6 => ?_)
    ·
      exact absurd c6 (by decide +kernel)
    ·
      refine lv_iconst (v := (-1)) hx hb dX8_turned_9 (by decide +kernel) ?_
      exact my_retI hx hb hr hlocks hK hS (wl_k_X8_turned cI cJ cK x0 xn xl xt xo xf xs xp xq xr xc o1 (nI z) nf (nI oz) of) hP hD (Or.inl ⟨rfl, rfl, (by first | assumption | omega | trivial | decide +kernel)⟩) dX8_turned_10
abbrev wl_k_X8_spread (cI cJ cK : ClassId) (x0 : Nat) (xn : Nat) (xl : Nat) (xt : Nat) (xo : Nat) (xf : Nat) (xs : Nat) (xp : Nat) (xq : Nat) (xr : Nat) (xc : Nat) (f1 : Nat) (f2 : Nat) (o1 : Nat) (v0_ : Int32) (v1_ : Nat → Int32) (v2_ : Int32) (v3_ : Nat → Int32) (v4_ : Nat → Int32) (v5_ : Int32) (v6_ : Nat → Int64) : va_W := [(x0, .inr (8, [.ref xn, .int v0_, .ref xl, .ref xt, .ref xo, .ref xf, .ref xs, .ref xp, .ref xq, .ref xr, .ref xc])), (xn, .inl (cI, 64, .inl v1_)), (xf, .inr (6, [.ref f1, .ref f2, .int v2_])), (f1, .inl (cI, 512, .inl v3_)), (f2, .inl (cI, 64, .inl v4_)), (xo, .inr (7, [.ref o1, .int v5_])), (o1, .inl (cJ, 64, .inr (.inl v6_)))]
set_option maxHeartbeats 4000000 in
set_option maxRecDepth 100000 in
theorem k_X8_spread (l : Launch) (D : va_G) (cI cJ cK : ClassId) (x0 : Nat) (xn : Nat) (xl : Nat) (xt : Nat) (xo : Nat) (xf : Nat) (xs : Nat) (xp : Nat) (xq : Nat) (xr : Nat) (xc : Nat) (f1 : Nat) (f2 : Nat) (o1 : Nat) (z : Nat) (nf : Nat → Int32) (fz : Nat) (fn : Nat → Int32) (fs : Nat → Int32) (oz : Nat) (of : Nat → Int64) (l9 : Int32) (r9 : Int32) (p9 : Int32) (hz_z : z ≤ 64) (hR_nf : RB 0 255 nf) (hz_fz : fz ≤ 64) (hz_oz : oz ≤ 64) : ctI l yX8_spread wsX8_spread ({ frames := 4, cells := 0, slots := 0, locals := 240 } : Room) D (tyIJ cI cJ cK) [.ref x0, .int l9, .int r9, .int p9] (wl_k_X8_spread cI cJ cK x0 xn xl xt xo xf xs xp xq xr xc f1 f2 o1 (nI z) nf (nI fz) fn fs (nI oz) of) (fun (r : Int32) (u : va_W) => (u = (wl_k_X8_spread cI cJ cK x0 xn xl xt xo xf xs xp xq xr xc f1 f2 o1 (nI z) nf (nI fz) fn fs (nI oz) of) ∧ r = (-1) ∧ (l9.toInt < 0 ∨ r9.toInt < l9.toInt ∨ z < r9.toInt ∨ p9.toInt < 1 ∨ 4 < p9.toInt)) ∨ (∃ (t' : Nat) (fz' : Nat) (fn' : Nat → Int32) (fs' : Nat → Int32) (oz' : Nat) (of' : Nat → Int64), u = (wl_k_X8_spread cI cJ cK x0 xn xl xt xo xf xs xp xq xr xc f1 f2 o1 (nI z) nf (nI fz') fn' fs' (nI oz') of') ∧ r = nI t' ∧ fz' ≤ 64 ∧ oz' ≤ 64 ∧ 0 ≤ l9.toInt ∧ l9.toInt ≤ r9.toInt ∧ r9.toInt ≤ z ∧ 1 ≤ p9.toInt ∧ p9.toInt ≤ 4 ∧ t' = fb_ct (spP nf p9.toInt.toNat l9.toInt.toNat r9.toInt.toNat) (2 ^ p9.toInt.toNat) ∧ oz' = 2 ^ p9.toInt.toNat)) := by
  refine ctI.of (cc := cX8_spread) (maxL := 7) (ret := (some .int)) (by decide) rfl (Nat.le_of_ble_eq_true rfl) ?_
  intro p e s m below meth c ls A hx hb hr hts hown hml hlocks hname hA hK hN hP hD hS hl
  have hl : lv_has ls 7 [(0, .ref x0), (1, .int l9), (2, .int r9), (3, .int p9)] := hl
  have hown : s.vm.findClass RX8 = some m.cls := hown
  have hi8 : ∀ w ∈ u_ws RX8 TX8 11, w ∈ wsX8_spread := by decide +kernel
  have fl34 := hts (.fieldLink RX8 34 "PlaneColumn" "told" "LPlaneColumn$Told;") (by decide +kernel)
  have fl41 := hts (.fieldLink RX8 41 "PlaneColumn" "first" "LPlaneColumn$Tally;") (by decide +kernel)
  have fl9 := hts (.fieldLink RX8 9 "PlaneColumn" "numbers" "[I") (by decide +kernel)
  refine lv_aload_n hx hb dX8_spread_0 rfl (lv_at hl 0 rfl) ?_
  refine lv_iload_n hx hb dX8_spread_1 rfl (lv_at hl 1 rfl) ?_
  refine lv_iload_n hx hb dX8_spread_2 rfl (lv_at hl 2 rfl) ?_
  refine my_gpI (my_pV (As := [.int l9, .int r9]) (rest := []) (ci := 8) ⟨hx, hb, hml, hown, hts⟩ (cwV 2 hts gX8_spread_X8_isSpan rfl rfl rfl (by decide +kernel) ⟨Nat.le_of_ble_eq_true rfl, Nat.le_of_ble_eq_true rfl⟩) hN hK hP [0] rfl 0 rfl rfl rfl rfl hl.1 rfl (Nat.le_of_ble_eq_true rfl) dX8_spread_3 ⟨Nat.le_of_ble_eq_true rfl, Nat.le_of_ble_eq_true rfl⟩  (k_X8_isSpan l D cI cJ cK x0 xn xl xt xo xf xs xp xq xr xc z l9 r9 (by first | assumption | omega | decide +kernel))) (fun r hp => ?_)
  rcases hp with ⟨a_1, b_2, rfl, rfl, rfl, ha_3, hb_4⟩ | ⟨rfl, ho_5⟩
  ·
    refine lv_if_eq (tgt := 19) hx hb dX8_spread_6 (by decide) (fun c6 => ?_) (fun c6 => ?_)
    ·
      exact absurd c6 (by decide +kernel)
    ·
      refine lv_iload_n hx hb dX8_spread_9 rfl (lv_at hl 3 rfl) ?_
      refine lv_iconst (v := 1) hx hb dX8_spread_10 (by decide +kernel) ?_
      refine lv_icmp_lt (tgt := 19) hx hb dX8_spread_11 (by decide) (fun c11 => ?_) (fun c11 => ?_)
      ·
        have d11 : p9.toInt < (1 : Int) := my_lt c11 rfl (by decide +kernel)
        refine lv_iconst (v := (-1)) hx hb dX8_spread_19 (by decide +kernel) ?_
        have hsI_l9 : (nI a_1).toInt = ((a_1 : Nat) : Int) := nI_toInt (by omega)
        have hsN_l9 : (nI a_1).toInt.toNat = a_1 := nIt (by omega)
        have hsI_r9 : (nI b_2).toInt = ((b_2 : Nat) : Int) := nI_toInt (by omega)
        have hsN_r9 : (nI b_2).toInt.toNat = b_2 := nIt (by omega)
        exact my_retI hx hb hr hlocks hK hS (wl_k_X8_spread cI cJ cK x0 xn xl xt xo xf xs xp xq xr xc f1 f2 o1 (nI z) nf (nI fz) fn fs (nI oz) of) hP hD (Or.inl ⟨rfl, rfl, (by first | assumption | omega | trivial | decide +kernel)⟩) dX8_spread_20
      ·
        have d11 : p9.toInt ≥ (1 : Int) := my_nlt c11 rfl (by decide +kernel)
        refine lv_iload_n hx hb dX8_spread_14 rfl (lv_at hl 3 rfl) ?_
        refine lv_iconst (v := 4) hx hb dX8_spread_15 (by decide +kernel) ?_
        refine lv_icmp_le (tgt := 21) hx hb dX8_spread_16 (by decide) (fun c16 => ?_) (fun c16 => ?_)
        ·
          have d16 : p9.toInt ≤ (4 : Int) := my_le c16 rfl (by decide +kernel)
          obtain ⟨w_6, rfl, hw_6⟩ := my_natP (x := p9) (by omega)
          have hlw_6 : w_6 < 2147483648 := by have h9 := Int32.toInt_lt (nI w_6); omega
          refine lv_aload_n hx hb dX8_spread_21 rfl (lv_at hl 0 rfl) ?_
          refine va_get (ci := 8) (v := .ref xf) (C := RX8) (T := TX8) (N := 11) hx hb hts hi8 hown hK hP 0 rfl rfl 5 (by decide) fl41 (fun _ h9 => h9) rfl dX8_spread_22 ?_
          refine lv_aload_n hx hb dX8_spread_25 rfl (lv_at hl 0 rfl) ?_
          refine va_get (ci := 8) (v := .ref xn) (C := RX8) (T := TX8) (N := 11) hx hb hts hi8 hown hK hP 0 rfl rfl 0 (by decide) fl9 (fun _ h9 => h9) rfl dX8_spread_26 ?_
          refine lv_iload_n hx hb dX8_spread_29 rfl (lv_at hl 1 rfl) ?_
          refine lv_iload_n hx hb dX8_spread_30 rfl (lv_at hl 2 rfl) ?_
          refine my_goVS (wc := (wl_k_X6_take cI cJ cK xf f1 f2 xn (nI fz) fn fs nf)) hP hD hS hA [2, 3, 4, 1] rfl [none, some 3, some 0, some 1, some 2] (by decide +kernel) (my_cV (As := [.ref xn, .int (nI a_1), .int (nI b_2)]) (rest := []) (ci := 6) (wc := (wl_k_X6_take cI cJ cK xf f1 f2 xn (nI fz) fn fs nf)) ⟨hx, hb, hml, hown, hts⟩ (cwV 3 hts gX8_spread_X6_take rfl rfl rfl (by decide +kernel) ⟨Nat.le_of_ble_eq_true rfl, Nat.le_of_ble_eq_true rfl⟩) hN hK hP hD [2, 3, 4, 1] rfl (by decide) rfl 2 rfl rfl rfl rfl hl.1 rfl (Nat.le_of_ble_eq_true rfl) dX8_spread_31 ⟨Nat.le_of_ble_eq_true rfl, Nat.le_of_ble_eq_true rfl⟩  ((k_X6_take l D cI cJ cK xf f1 f2 xn fz fn fs nf a_1 b_2 (by first | assumption | omega | decide +kernel) hR_nf (by first | assumption | omega | decide +kernel) (by first | assumption | omega | decide +kernel)) _)) (fun u H locs hp hPD hS => ?_)
          obtain ⟨fz_7, fn_8, fs_9, rfl, hhz_fz_10, hnd, hn8, hfz, hsv⟩ := hp
          obtain ⟨hP, hD⟩ := hPD rfl
          have hP : va_P D vwCl (wl_k_X8_spread cI cJ cK x0 xn xl xt xo xf xs xp xq xr xc f1 f2 o1 (nI z) nf (nI fz_7) fn_8 fs_9 (nI oz) of) H := hP
          have hD : va_D A (wl_k_X8_spread cI cJ cK x0 xn xl xt xo xf xs xp xq xr xc f1 f2 o1 (nI z) nf (nI fz_7) fn_8 fs_9 (nI oz) of) := hD
          refine lv_iconst (v := 0) hx hb dX8_spread_34 (by decide +kernel) ?_
          refine lv_istore (lv' := [(4, .int 0), (0, .ref x0), (1, .int (nI a_1)), (2, .int (nI b_2)), (3, .int (nI w_6))]) hx hb dX8_spread_35 hl (by decide) rfl (fun ls hl => ?_)
          refine lv_aload_n hx hb dX8_spread_37 rfl (lv_at hl 1 rfl) ?_
          refine va_get (ci := 8) (v := .ref xo) (C := RX8) (T := TX8) (N := 11) hx hb hts hi8 hown hK hP 0 rfl rfl 4 (by decide) fl34 (fun _ h9 => h9) rfl dX8_spread_38 ?_
          refine my_goVS (wc := (wl_k_X7_begin cI cJ cK xo o1 (nI oz))) hP hD hS hA [5] rfl [none, none, none, none, none, some 0] (by decide +kernel) (my_cV (As := []) (rest := []) (ci := 7) (wc := (wl_k_X7_begin cI cJ cK xo o1 (nI oz))) ⟨hx, hb, hml, hown, hts⟩ (cwV 0 hts gX8_spread_X7_begin rfl rfl rfl (by decide +kernel) ⟨Nat.le_of_ble_eq_true rfl, Nat.le_of_ble_eq_true rfl⟩) hN hK hP hD [5] rfl (by decide) rfl 5 rfl rfl rfl rfl hl.1 rfl (Nat.le_of_ble_eq_true rfl) dX8_spread_41 ⟨Nat.le_of_ble_eq_true rfl, Nat.le_of_ble_eq_true rfl⟩  ((k_X7_begin l D cI cJ cK xo o1 oz (by first | assumption | omega | decide +kernel)) _)) (fun u H locs hp hPD hS => ?_)
          obtain rfl := hp
          obtain ⟨hP, hD⟩ := hPD rfl
          have hP : va_P D vwCl (wl_k_X8_spread cI cJ cK x0 xn xl xt xo xf xs xp xq xr xc f1 f2 o1 (nI z) nf (nI fz_7) fn_8 fs_9 0 of) H := hP
          have hD : va_D A (wl_k_X8_spread cI cJ cK x0 xn xl xt xo xf xs xp xq xr xc f1 f2 o1 (nI z) nf (nI fz_7) fn_8 fs_9 0 of) := hD
          refine lv_iconst (v := 0) hx hb dX8_spread_44 (by decide +kernel) ?_
          refine lv_istore (lv' := [(5, .int 0), (4, .int 0), (0, .ref x0), (1, .int (nI a_1)), (2, .int (nI b_2)), (3, .int (nI w_6))]) hx hb dX8_spread_45 hl (by decide) rfl (fun ls hl => ?_)
          have loop47 : ∀ (n9 : Nat) (v : Nat) (t : Nat) (xo_size_47 : Nat) (o1_47 : Nat → Int64), 16 - v < n9 → (t ≤ 16) → (v ≤ 16) → (t ≤ v) → (v ≤ 2 ^ w_6) → (t = fb_ct (spP nf w_6 a_1 b_2) v) → (xo_size_47 = v) → (xo_size_47 ≤ 64) → ∀ (H : Heap) (locs : List Loc) (ls : Array Slot), va_P D vwCl (wl_k_X8_spread cI cJ cK x0 xn xl xt xo xf xs xp xq xr xc f1 f2 o1 (nI z) nf (nI fz_7) fn_8 fs_9 (nI xo_size_47) o1_47) H → va_D A (wl_k_X8_spread cI cJ cK x0 xn xl xt xo xf xs xp xq xr xc f1 f2 o1 (nI z) nf (nI fz_7) fn_8 fs_9 (nI xo_size_47) o1_47) → va_S A s.heap H locs → lv_has ls 7 [(5, .int (nI v)), (4, .int (nI t)), (0, .ref x0), (1, .int (nI a_1)), (2, .int (nI b_2)), (3, .int (nI w_6))] → W p l e ({ frames := 4, cells := 0, slots := 0, locals := 240 } : Room) s m [.ref x0, .int (nI a_1), .int (nI b_2), .int (nI w_6)].toArray below meth c H locs 0 0 (MQ below (va_Qi (fun (r : Int32) (u : va_W) => (u = (wl_k_X8_spread cI cJ cK x0 xn xl xt xo xf xs xp xq xr xc f1 f2 o1 (nI z) nf (nI fz) fn fs (nI oz) of) ∧ r = (-1) ∧ ((nI a_1).toInt < 0 ∨ (nI b_2).toInt < (nI a_1).toInt ∨ z < (nI b_2).toInt ∨ (nI w_6).toInt < 1 ∨ 4 < (nI w_6).toInt)) ∨ (∃ (t' : Nat) (fz' : Nat) (fn' : Nat → Int32) (fs' : Nat → Int32) (oz' : Nat) (of' : Nat → Int64), u = (wl_k_X8_spread cI cJ cK x0 xn xl xt xo xf xs xp xq xr xc f1 f2 o1 (nI z) nf (nI fz') fn' fs' (nI oz') of') ∧ r = nI t' ∧ fz' ≤ 64 ∧ oz' ≤ 64 ∧ 0 ≤ (nI a_1).toInt ∧ (nI a_1).toInt ≤ (nI b_2).toInt ∧ (nI b_2).toInt ≤ z ∧ 1 ≤ (nI w_6).toInt ∧ (nI w_6).toInt ≤ 4 ∧ t' = fb_ct (spP nf (nI w_6).toInt.toNat (nI a_1).toInt.toNat (nI b_2).toInt.toNat) (2 ^ (nI w_6).toInt.toNat) ∧ oz' = 2 ^ (nI w_6).toInt.toNat)) (my_B D (tyIJ cI cJ cK) A) A) [.ref x0, .int (nI a_1), .int (nI b_2), .int (nI w_6)].toArray s 0 0 A) (F0 m 47 ls []) := by
            intro n9
            induction n9 with
            | zero =>
              intro v t xo_size_47 o1_47 hn9
              exact absurd hn9 (Nat.not_lt_zero _)
            | succ n9 ih47 =>
              intro v t xo_size_47 o1_47 hn9 hk_t hk_v htv hvp ht htd9 hz_xo_size_47 H locs ls hP hD hS hl
              have hp8 := my_pow4 (s := w_6) (by omega)
              refine lv_iload hx hb dX8_spread_47 (lv_at hl 0 rfl) ?_
              refine lv_iconst (v := 1) hx hb dX8_spread_49 (by decide +kernel) ?_
              refine lv_iload_n hx hb dX8_spread_50 rfl (lv_at hl 5 rfl) ?_
              have hp8 := my_pow4 (s := w_6) (by omega)
              refine lv_ishl hx hb dX8_spread_51 ?_
              refine my_eqi (y := nI (2 ^ w_6)) (my_shl1 (by omega)) ?_
              refine lv_icmp_ge (tgt := 91) hx hb dX8_spread_52 (by decide) (fun c52 => ?_) (fun c52 => ?_)
              ·
                have d52 : ((v : Nat) : Int) ≥ ((2 ^ w_6 : Nat) : Int) := my_ge c52 (nI_toInt (by omega)) (nI_toInt (by omega))
                have hve : v = 2 ^ w_6 := by omega
                refine lv_iload hx hb dX8_spread_91 (lv_at hl 1 rfl) ?_
                have hsI_l9 : (nI a_1).toInt = ((a_1 : Nat) : Int) := nI_toInt (by omega)
                have hsN_l9 : (nI a_1).toInt.toNat = a_1 := nIt (by omega)
                have hsI_r9 : (nI b_2).toInt = ((b_2 : Nat) : Int) := nI_toInt (by omega)
                have hsN_r9 : (nI b_2).toInt.toNat = b_2 := nIt (by omega)
                have hsI_p9 : (nI w_6).toInt = ((w_6 : Nat) : Int) := nI_toInt (by omega)
                have hsN_p9 : (nI w_6).toInt.toNat = w_6 := nIt (by omega)
                exact my_retI hx hb hr hlocks hK hS (wl_k_X8_spread cI cJ cK x0 xn xl xt xo xf xs xp xq xr xc f1 f2 o1 (nI z) nf (nI fz_7) fn_8 fs_9 (nI xo_size_47) o1_47) hP hD (Or.inr (⟨t, fz_7, fn_8, fs_9, xo_size_47, o1_47, rfl, rfl, (by first | assumption | omega | trivial | decide +kernel), (by first | assumption | omega | trivial | decide +kernel), (by first | assumption | omega | trivial | decide +kernel), (by first | assumption | omega | trivial | decide +kernel), (by first | assumption | omega | trivial | decide +kernel), (by first | assumption | omega | trivial | decide +kernel), (by first | assumption | omega | trivial | decide +kernel), (by rw [hsN_l9, hsN_r9, hsN_p9, ← hve]; exact ht), (by rw [hsN_p9, ← hve]; exact htd9)⟩)) dX8_spread_93
              ·
                have d52 : ((v : Nat) : Int) < ((2 ^ w_6 : Nat) : Int) := my_nge c52 (nI_toInt (by omega)) (nI_toInt (by omega))
                refine lv_aload_n hx hb dX8_spread_55 rfl (lv_at hl 2 rfl) ?_
                refine va_get (ci := 8) (v := .ref xf) (C := RX8) (T := TX8) (N := 11) hx hb hts hi8 hown hK hP 0 rfl rfl 5 (by decide) fl41 (fun _ h9 => h9) rfl dX8_spread_56 ?_
                refine lv_iload_n hx hb dX8_spread_59 rfl (lv_at hl 5 rfl) ?_
                refine lv_iload hx hb dX8_spread_60 (lv_at hl 0 rfl) ?_
                refine my_gpI (my_pV (As := [.int (nI w_6), .int (nI v)]) (rest := []) (ci := 6) ⟨hx, hb, hml, hown, hts⟩ (cwV 2 hts gX8_spread_X6_inNode rfl rfl rfl (by decide +kernel) ⟨Nat.le_of_ble_eq_true rfl, Nat.le_of_ble_eq_true rfl⟩) hN hK hP [2, 3] rfl 2 rfl rfl rfl rfl hl.1 rfl (Nat.le_of_ble_eq_true rfl) dX8_spread_62 ⟨Nat.le_of_ble_eq_true rfl, Nat.le_of_ble_eq_true rfl⟩  (kf_X6_inNode l D cI cJ cK xf f1 f2 fz_7 fn_8 w_6 v (by first | assumption | omega | decide +kernel) (by first | assumption | omega | decide +kernel) (by first | assumption | omega | decide +kernel))) (fun r hp => ?_)
                obtain rfl := hp
                have hcl : (fn_8 (2 ^ w_6 + v)).toInt = ((cnl nf w_6 v a_1 b_2 : Nat) : Int) := by rw [hnd w_6 (by omega) v (by omega)]; exact nI_toInt (by have h9 := cnl_le (f := nf) (lv := w_6) (h := v) (a := a_1) b_2; omega)
                refine lv_istore (lv' := [(6, .int (fn_8 (2 ^ w_6 + v))), (5, .int (nI v)), (4, .int (nI t)), (0, .ref x0), (1, .int (nI a_1)), (2, .int (nI b_2)), (3, .int (nI w_6))]) hx hb dX8_spread_65 hl (by decide) rfl (fun ls hl => ?_)
                refine lv_aload_n hx hb dX8_spread_67 rfl (lv_at hl 3 rfl) ?_
                refine va_get (ci := 8) (v := .ref xo) (C := RX8) (T := TX8) (N := 11) hx hb hts hi8 hown hK hP 0 rfl rfl 4 (by decide) fl34 (fun _ h9 => h9) rfl dX8_spread_68 ?_
                refine lv_iload hx hb dX8_spread_71 (lv_at hl 0 rfl) ?_
                refine lv_i2l (v := (fn_8 (2 ^ w_6 + v)).toInt64) hx hb dX8_spread_73 rfl ?_
                refine my_goVS (wc := (wl_kf_X7_add cI cJ cK xo o1 (nI xo_size_47) o1_47)) hP hD hS hA [5, 6] rfl [none, none, none, none, none, some 0, some 1] (by decide +kernel) (my_cV (As := [.long ((fn_8 (2 ^ w_6 + v)).toInt64)]) (rest := []) (ci := 7) (wc := (wl_kf_X7_add cI cJ cK xo o1 (nI xo_size_47) o1_47)) ⟨hx, hb, hml, hown, hts⟩ (cwV 1 hts gX8_spread_X7_add rfl rfl rfl (by decide +kernel) ⟨Nat.le_of_ble_eq_true rfl, Nat.le_of_ble_eq_true rfl⟩) hN hK hP hD [5, 6] rfl (by decide) rfl 5 rfl rfl rfl rfl hl.1 rfl (Nat.le_of_ble_eq_true rfl) dX8_spread_74 ⟨Nat.le_of_ble_eq_true rfl, Nat.le_of_ble_eq_true rfl⟩  ((kf_X7_add l D cI cJ cK xo o1 xo_size_47 o1_47 ((fn_8 (2 ^ w_6 + v)).toInt64) (by first | assumption | omega | decide +kernel) (by first | assumption | omega | decide +kernel)) _)) (fun u H locs hp hPD hS => ?_)
                obtain ⟨of_11, rfl, hof, ht_12⟩ := hp
                obtain ⟨hP, hD⟩ := hPD rfl
                have hP : va_P D vwCl (wl_k_X8_spread cI cJ cK x0 xn xl xt xo xf xs xp xq xr xc f1 f2 o1 (nI z) nf (nI fz_7) fn_8 fs_9 (nI (xo_size_47 + 1)) of_11) H := hP
                have hD : va_D A (wl_k_X8_spread cI cJ cK x0 xn xl xt xo xf xs xp xq xr xc f1 f2 o1 (nI z) nf (nI fz_7) fn_8 fs_9 (nI (xo_size_47 + 1)) of_11) := hD
                refine lv_iload hx hb dX8_spread_77 (lv_at hl 0 rfl) ?_
                refine lv_if_le (tgt := 85) hx hb dX8_spread_79 (by decide) (fun c79 => ?_) (fun c79 => ?_)
                ·
                  have d79 : (fn_8 (2 ^ w_6 + v)).toInt ≤ (0 : Int) := my_le c79 rfl (by decide +kernel)
                  refine lv_iinc (v := nI (v + 1)) (lv' := [(5, .int (nI (v + 1))), (6, .int (fn_8 (2 ^ w_6 + v))), (4, .int (nI t)), (0, .ref x0), (1, .int (nI a_1)), (2, .int (nI b_2)), (3, .int (nI w_6))]) hx hb dX8_spread_85 hl (k := 1) rfl (my_incN v 1 (by decide +kernel)) (by decide) rfl (fun ls hl => ?_)
                  refine lv_goto (tgt := 47) hx hb dX8_spread_88 (by decide) ?_
                  exact ih47  (v + 1) t (xo_size_47 + 1) of_11 (by omega) (by first | assumption | omega | decide +kernel) (by first | assumption | omega | decide +kernel) (by first | assumption | omega | decide +kernel) (by first | assumption | omega | decide +kernel) (by first | exact ct_yes ht (decide_eq_true (by omega)) | exact ct_no ht (decide_eq_false (by omega))) (by first | assumption | omega | decide +kernel) (by first | assumption | omega | decide +kernel) _ _ ls hP hD hS (lv_sub hl [0, 2, 3, 4, 5, 6] rfl)
                ·
                  have d79 : (fn_8 (2 ^ w_6 + v)).toInt > (0 : Int) := my_nle c79 rfl (by decide +kernel)
                  refine lv_iinc (v := nI (t + 1)) (lv' := [(4, .int (nI (t + 1))), (6, .int (fn_8 (2 ^ w_6 + v))), (5, .int (nI v)), (0, .ref x0), (1, .int (nI a_1)), (2, .int (nI b_2)), (3, .int (nI w_6))]) hx hb dX8_spread_82 hl (k := 2) rfl (my_incN t 1 (by decide +kernel)) (by decide) rfl (fun ls hl => ?_)
                  refine lv_iinc (v := nI (v + 1)) (lv' := [(5, .int (nI (v + 1))), (4, .int (nI (t + 1))), (6, .int (fn_8 (2 ^ w_6 + v))), (0, .ref x0), (1, .int (nI a_1)), (2, .int (nI b_2)), (3, .int (nI w_6))]) hx hb dX8_spread_85 hl (k := 2) rfl (my_incN v 1 (by decide +kernel)) (by decide) rfl (fun ls hl => ?_)
                  refine lv_goto (tgt := 47) hx hb dX8_spread_88 (by decide) ?_
                  exact ih47  (v + 1) (t + 1) (xo_size_47 + 1) of_11 (by omega) (by first | assumption | omega | decide +kernel) (by first | assumption | omega | decide +kernel) (by first | assumption | omega | decide +kernel) (by first | assumption | omega | decide +kernel) (by first | exact ct_yes ht (decide_eq_true (by omega)) | exact ct_no ht (decide_eq_false (by omega))) (by first | assumption | omega | decide +kernel) (by first | assumption | omega | decide +kernel) _ _ ls hP hD hS (lv_sub hl [0, 1, 3, 4, 5, 6] rfl)
          exact loop47 ((16 - 0) + 1) 0 0 0 of (Nat.lt_succ_self _) (by first | assumption | omega | decide +kernel) (by first | assumption | omega | decide +kernel) (by first | assumption | omega | decide +kernel) (Nat.zero_le _) (rfl) (by first | assumption | omega | decide +kernel) (by first | assumption | omega | decide +kernel) _ _ ls hP hD hS (lv_sub hl [0, 1, 2, 3, 4, 5] rfl)
        ·
          have d16 : p9.toInt > (4 : Int) := my_nle c16 rfl (by decide +kernel)
          refine lv_iconst (v := (-1)) hx hb dX8_spread_19 (by decide +kernel) ?_
          have hsI_l9 : (nI a_1).toInt = ((a_1 : Nat) : Int) := nI_toInt (by omega)
          have hsN_l9 : (nI a_1).toInt.toNat = a_1 := nIt (by omega)
          have hsI_r9 : (nI b_2).toInt = ((b_2 : Nat) : Int) := nI_toInt (by omega)
          have hsN_r9 : (nI b_2).toInt.toNat = b_2 := nIt (by omega)
          exact my_retI hx hb hr hlocks hK hS (wl_k_X8_spread cI cJ cK x0 xn xl xt xo xf xs xp xq xr xc f1 f2 o1 (nI z) nf (nI fz) fn fs (nI oz) of) hP hD (Or.inl ⟨rfl, rfl, (by first | assumption | omega | trivial | decide +kernel)⟩) dX8_spread_20
  ·
    refine lv_if_eq (tgt := 19) hx hb dX8_spread_6 (by decide) (fun c6 => ?_) (fun c6 => ?_)
    ·
      refine lv_iconst (v := (-1)) hx hb dX8_spread_19 (by decide +kernel) ?_
      exact my_retI hx hb hr hlocks hK hS (wl_k_X8_spread cI cJ cK x0 xn xl xt xo xf xs xp xq xr xc f1 f2 o1 (nI z) nf (nI fz) fn fs (nI oz) of) hP hD (Or.inl ⟨rfl, rfl, (by first | assumption | omega | trivial | decide +kernel)⟩) dX8_spread_20
    ·
      exact absurd c6 (by decide +kernel)
