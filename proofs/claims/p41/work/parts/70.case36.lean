set_option maxHeartbeats 8000000 in
set_option maxRecDepth 100000 in
theorem law_case_36 {p : Program} {l : Launch} {e : Env} {s : State} {m : MethodId} {below : List Frame} {meth : Method} {c : Code} {D : va_G} {cI cJ cK : ClassId} {b L i : Nat} {sc : Nat → Int32} (C0 : lw_At p s m meth c b L sc) (hK : va_K D vwCl (tyIJ cI cJ cK) s) (hN : nw s) {A : Nat → Prop} (hAe : A = fun q : Nat => s.heap.size ≤ q) (hL : L ≤ 3072) (hi : i + 6 ≤ L) {ce sl : Nat} (hce : ce + 6 ≤ 601022) (hsl : sl + 6 ≤ 7293032) (x0 : Nat) (xn : Nat) (xl : Nat) (xt : Nat) (xo : Nat) (xf : Nat) (xs : Nat) (xp : Nat) (xq : Nat) (xr : Nat) (xc : Nat) (l1 : Nat) (l2 : Nat) (l3 : Nat) (t1 : Nat) (o1 : Nat) (f1 : Nat) (f2 : Nat) (s1 : Nat) (s2 : Nat) (p1 : Nat) (q1 : Nat) (r1 : Nat) (r2 : Nat) (r3 : Nat) (r4 : Nat) (r5 : Nat) (w0 : Nat) (w1 : Nat) (w2 : Nat) (w3 : Nat) (w4 : Nat) (w5 : Nat) (w6 : Nat) (w7 : Nat) (c1 : Nat) (c2 : Nat) (m0 : Nat) (a_row : Nat) (a_tape : Nat) (a_number : Nat) (a_read : Nat) (a_readBits : Nat) (a_stands : Nat) (a_parted : Nat) (a_bitsWere : Nat) (a_stood : Nat) (a_chosen : Nat) (a_bestChosen : Nat) (a_often : Nat) (a_sorted : Nat) (a_risen : Nat) (a_risenWays : Nat) (o0 : Nat) (z : Nat) (nf : Nat → Int32) (lz : Nat) (lb : Nat → Int64) (lo : Nat → Int32) (ln : Nat → Int32) (tz : Nat) (tf : Nat → Int32) (oz : Nat) (of : Nat → Int64) (fz : Nat) (fn : Nat → Int32) (fs : Nat → Int32) (sz : Nat) (sn : Nat → Int32) (ss : Nat → Int32) (pz : Nat) (pa : Nat) (pn : Nat → Int32) (qw : Nat) (qb : Nat → Int64) (rz : Nat) (rv : Nat) (rw : Int32) (rk : Int32) (wf0 : Nat → Int64) (wf1 : Nat → Int64) (wf2 : Nat → Int64) (wf3 : Nat → Int64) (wf4 : Nat → Int64) (wf5 : Nat → Int64) (wf6 : Nat → Int64) (wf7 : Nat → Int64) (ro : Nat → Int64) (rt : Nat → Int32) (rb : Nat → Int32) (rd : Nat → Int32) (cl : Int32) (cg : Nat → Int32) (cw : Nat → Int64) (m_thrown : Int32) (m_told : Nat) (m_taped : Nat) (m_at : Nat) (m_to : Nat) (m_many : Nat) (m_readMany : Nat) (m_fewest : Int32) (m_size : Nat) (mr : Nat → Int64) (mt : Nat → Int32) (mn : Nat → Int32) (md : Nat → Int32) (mb : Nat → Int32) (ms : Nat → Int32) (mp : Nat → Int32) (mw : Nat → Int32) (mo : Nat → Int32) (mc : Nat → Int32) (me : Nat → Int32) (mf : Nat → Int32) (mg : Nat → Int32) (mi : Nat → Int32) (mj : Nat → Int64) (ou : Nat → Int64) (hz_z : z ≤ 64) (hR_nf : RB 0 255 nf) (hz_lz : lz ≤ 64) (hR_lo : RB 0 63 lo) (hR_ln : RB 0 63 ln) (hz_tz : tz ≤ 100) (hR_tf : RB 0 255 tf) (hz_oz : oz ≤ 64) (hz_fz : fz ≤ 64) (hz_sz : sz ≤ 64) (hz_pz : pz ≤ 64) (hz_pa : pa ≤ 100) (hR_pn : RB 0 255 pn) (hz_qw : qw ≤ 11) (hz_rz : rz ≤ 64) (hz_rv : rv ≤ 8) (hz_m_told : m_told ≤ 64) (hz_m_taped : m_taped ≤ 100) (hz_m_at : m_at ≤ 100) (hz_m_to : m_to ≤ 100) (hz_m_many : m_many ≤ 64) (hz_m_readMany : m_readMany ≤ 64) (hz_m_size : m_size ≤ 64) (hR_mt : RB 0 255 mt) (hR_mn : RB 0 255 mn) (hR_md : RB 0 255 md) (hR_mb : RB 0 1 mb) (hR_ms : RB 0 63 ms) (hR_mp : RB 0 63 mp) (hR_mo : RB 0 63 mo) (hR_mg : RB 0 255 mg) (hrel_t : tz = m_taped) (hrel_x : txEq tz tf mt) (hrel_z : z = m_many) (hrel_n : ∀ j, j < z → nf j = mn j) (hrel_l : LVL lb nf z) (hrel_lz : lz = z) (hrel_o : oz = m_told) (hrel_k : rk.toInt ≠ 0 → rw = nI (thF nf z)) (H : Heap) (locs : List Loc) (ls : Array Slot) (hP : va_P D vwCl (lw_St cI cJ cK x0 xn xl xt xo xf xs xp xq xr xc l1 l2 l3 t1 o1 f1 f2 s1 s2 p1 q1 r1 r2 r3 r4 r5 w0 w1 w2 w3 w4 w5 w6 w7 c1 c2 m0 a_row a_tape a_number a_read a_readBits a_stands a_parted a_bitsWere a_stood a_chosen a_bestChosen a_often a_sorted a_risen a_risenWays o0 z nf lz lb lo ln tz tf oz of fz fn fs sz sn ss pz pa pn qw qb rz rv rw rk wf0 wf1 wf2 wf3 wf4 wf5 wf6 wf7 ro rt rb rd cl cg cw m_thrown m_told m_taped m_at m_to m_many m_readMany m_fewest m_size mr mt mn md mb ms mp mw mo mc me mf mg mi mj ou) H) (hD : va_D A (lw_St cI cJ cK x0 xn xl xt xo xf xs xp xq xr xc l1 l2 l3 t1 o1 f1 f2 s1 s2 p1 q1 r1 r2 r3 r4 r5 w0 w1 w2 w3 w4 w5 w6 w7 c1 c2 m0 a_row a_tape a_number a_read a_readBits a_stands a_parted a_bitsWere a_stood a_chosen a_bestChosen a_often a_sorted a_risen a_risenWays o0 z nf lz lb lo ln tz tf oz of fz fn fs sz sn ss pz pa pn qw qb rz rv rw rk wf0 wf1 wf2 wf3 wf4 wf5 wf6 wf7 ro rt rb rd cl cg cw m_thrown m_told m_taped m_at m_to m_many m_readMany m_fewest m_size mr mt mn md mb ms mp mw mo mc me mf mg mi mj ou)) (hS : va_S A s.heap H locs) (hl : lv_has ls 8 [(0, .ref b), (1, .ref x0), (2, .ref m0), (3, .ref o0), (4, .int (nI i))]) (kk : ∀ (z : Nat) (nf : Nat → Int32) (lz : Nat) (lb : Nat → Int64) (lo : Nat → Int32) (ln : Nat → Int32) (tz : Nat) (tf : Nat → Int32) (oz : Nat) (of : Nat → Int64) (fz : Nat) (fn : Nat → Int32) (fs : Nat → Int32) (sz : Nat) (sn : Nat → Int32) (ss : Nat → Int32) (pz : Nat) (pa : Nat) (pn : Nat → Int32) (qw : Nat) (qb : Nat → Int64) (rz : Nat) (rv : Nat) (rw : Int32) (rk : Int32) (wf0 : Nat → Int64) (wf1 : Nat → Int64) (wf2 : Nat → Int64) (wf3 : Nat → Int64) (wf4 : Nat → Int64) (wf5 : Nat → Int64) (wf6 : Nat → Int64) (wf7 : Nat → Int64) (ro : Nat → Int64) (rt : Nat → Int32) (rb : Nat → Int32) (rd : Nat → Int32) (cl : Int32) (cg : Nat → Int32) (cw : Nat → Int64) (m_thrown : Int32) (m_told : Nat) (m_taped : Nat) (m_at : Nat) (m_to : Nat) (m_many : Nat) (m_readMany : Nat) (m_fewest : Int32) (m_size : Nat) (mr : Nat → Int64) (mt : Nat → Int32) (mn : Nat → Int32) (md : Nat → Int32) (mb : Nat → Int32) (ms : Nat → Int32) (mp : Nat → Int32) (mw : Nat → Int32) (mo : Nat → Int32) (mc : Nat → Int32) (me : Nat → Int32) (mf : Nat → Int32) (mg : Nat → Int32) (mi : Nat → Int32) (mj : Nat → Int64) (ou : Nat → Int64), (z ≤ 64) → (RB 0 255 nf) → (lz ≤ 64) → (RB 0 63 lo) → (RB 0 63 ln) → (tz ≤ 100) → (RB 0 255 tf) → (oz ≤ 64) → (fz ≤ 64) → (sz ≤ 64) → (pz ≤ 64) → (pa ≤ 100) → (RB 0 255 pn) → (qw ≤ 11) → (rz ≤ 64) → (rv ≤ 8) → (m_told ≤ 64) → (m_taped ≤ 100) → (m_at ≤ 100) → (m_to ≤ 100) → (m_many ≤ 64) → (m_readMany ≤ 64) → (m_size ≤ 64) → (RB 0 255 mt) → (RB 0 255 mn) → (RB 0 255 md) → (RB 0 1 mb) → (RB 0 63 ms) → (RB 0 63 mp) → (RB 0 63 mo) → (RB 0 255 mg) → (tz = m_taped) → (txEq tz tf mt) → (z = m_many) → (∀ j, j < z → nf j = mn j) → (LVL lb nf z) → (lz = z) → (oz = m_told) → (rk.toInt ≠ 0 → rw = nI (thF nf z)) → ∀ (H : Heap) (locs : List Loc) (ls : Array Slot), va_P D vwCl (lw_St cI cJ cK x0 xn xl xt xo xf xs xp xq xr xc l1 l2 l3 t1 o1 f1 f2 s1 s2 p1 q1 r1 r2 r3 r4 r5 w0 w1 w2 w3 w4 w5 w6 w7 c1 c2 m0 a_row a_tape a_number a_read a_readBits a_stands a_parted a_bitsWere a_stood a_chosen a_bestChosen a_often a_sorted a_risen a_risenWays o0 z nf lz lb lo ln tz tf oz of fz fn fs sz sn ss pz pa pn qw qb rz rv rw rk wf0 wf1 wf2 wf3 wf4 wf5 wf6 wf7 ro rt rb rd cl cg cw m_thrown m_told m_taped m_at m_to m_many m_readMany m_fewest m_size mr mt mn md mb ms mp mw mo mc me mf mg mi mj ou) H → va_D A (lw_St cI cJ cK x0 xn xl xt xo xf xs xp xq xr xc l1 l2 l3 t1 o1 f1 f2 s1 s2 p1 q1 r1 r2 r3 r4 r5 w0 w1 w2 w3 w4 w5 w6 w7 c1 c2 m0 a_row a_tape a_number a_read a_readBits a_stands a_parted a_bitsWere a_stood a_chosen a_bestChosen a_often a_sorted a_risen a_risenWays o0 z nf lz lb lo ln tz tf oz of fz fn fs sz sn ss pz pa pn qw qb rz rv rw rk wf0 wf1 wf2 wf3 wf4 wf5 wf6 wf7 ro rt rb rd cl cg cw m_thrown m_told m_taped m_at m_to m_many m_readMany m_fewest m_size mr mt mn md mb ms mp mw mo mc me mf mg mi mj ou) → va_S A s.heap H locs → lv_has ls 8 [(0, .ref b), (1, .ref x0), (2, .ref m0), (3, .ref o0), (4, .int (nI i))] → W p l e room_1 s m #[Value.ref b] below meth c H locs (ce + 6) (sl + 6) (lw_Z below #[Value.ref b] s) (F0 m 1836 ls [])) : W p l e room_1 s m #[Value.ref b] below meth c H locs ce sl (lw_Z below #[Value.ref b] s) (F0 m 1588 ls []) := by
  obtain ⟨hx, hb, hr, hml, hown, hts, hX, hbl, hlocks, hgv⟩ := id C0
  have hts := fun w h => hts w (wsL_law_in w h)
  have hown : s.vm.findClass RL = some m.cls := hown
  have hb : c.code = cL_law := hb
  have hA : ∀ q : Nat, s.heap.size ≤ q → A q := fun q h => by rw [hAe]; exact h
  have hbA : ¬ A b := by rw [hAe]; exact Nat.not_le.mpr hbl
  refine lv_aload_n hx hb dL_law_1588 rfl (lv_at hl 1 rfl) ?_
  refine lv_aload_n hx hb dL_law_1589 rfl (lv_at hl 0 rfl) ?_
  refine lv_iload hx hb dL_law_1590 (lv_at hl 4 rfl) ?_
  refine lv_iconst (v := 1) hx hb dL_law_1592 (by decide +kernel) ?_
  refine lv_iadd hx hb dL_law_1593 ?_
  refine my_eqi (y := nI (i + 1)) (my_addN i 1) ?_
  refine va_sld hx hb hX hbl hbA hS (vp_in_nI (by omega) (by omega)) dL_law_1594 ?_
  refine my_eqi (y := sc (i + 1)) (congrArg sc (nI_clamp (by omega))) ?_
  refine lv_aload_n hx hb dL_law_1595 rfl (lv_at hl 0 rfl) ?_
  refine lv_iload hx hb dL_law_1596 (lv_at hl 4 rfl) ?_
  refine lv_iconst (v := 2) hx hb dL_law_1598 (by decide +kernel) ?_
  refine lv_iadd hx hb dL_law_1599 ?_
  refine my_eqi (y := nI (i + 2)) (my_addN i 2) ?_
  refine va_sld hx hb hX hbl hbA hS (vp_in_nI (by omega) (by omega)) dL_law_1600 ?_
  refine my_eqi (y := sc (i + 2)) (congrArg sc (nI_clamp (by omega))) ?_
  refine lv_aload_n hx hb dL_law_1601 rfl (lv_at hl 0 rfl) ?_
  refine lv_iload hx hb dL_law_1602 (lv_at hl 4 rfl) ?_
  refine lv_iconst (v := 3) hx hb dL_law_1604 (by decide +kernel) ?_
  refine lv_iadd hx hb dL_law_1605 ?_
  refine my_eqi (y := nI (i + 3)) (my_addN i 3) ?_
  refine va_sld hx hb hX hbl hbA hS (vp_in_nI (by omega) (by omega)) dL_law_1606 ?_
  refine my_eqi (y := sc (i + 3)) (congrArg sc (nI_clamp (by omega))) ?_
  refine lv_aload_n hx hb dL_law_1607 rfl (lv_at hl 0 rfl) ?_
  refine lv_iload hx hb dL_law_1608 (lv_at hl 4 rfl) ?_
  refine lv_iconst (v := 4) hx hb dL_law_1610 (by decide +kernel) ?_
  refine lv_iadd hx hb dL_law_1611 ?_
  refine my_eqi (y := nI (i + 4)) (my_addN i 4) ?_
  refine va_sld hx hb hX hbl hbA hS (vp_in_nI (by omega) (by omega)) dL_law_1612 ?_
  refine my_eqi (y := sc (i + 4)) (congrArg sc (nI_clamp (by omega))) ?_
  refine my_goIS (wc := (wl_k_X8_lacking cI cJ cK x0 xn xl xt xo xf xs xp xq xr xc f1 f2 s1 s2 o1 (nI z) nf (nI fz) fn fs (nI sz) sn ss (nI oz) of)) hP hD hS hA [0, 1, 10, 11, 12, 13, 14, 15, 8, 9] rfl [some 0, some 1, none, none, none, none, none, none, some 8, some 9, some 2, some 3, some 4, some 5, some 6, some 7] (by decide +kernel) (my_cV (As := [.int (sc (i + 1)), .int (sc (i + 2)), .int (sc (i + 3)), .int (sc (i + 4))]) (rest := []) (ci := 8) (wc := (wl_k_X8_lacking cI cJ cK x0 xn xl xt xo xf xs xp xq xr xc f1 f2 s1 s2 o1 (nI z) nf (nI fz) fn fs (nI sz) sn ss (nI oz) of)) ⟨hx, hb, hml, hown, hts⟩ (cwV 4 hts gL_law_X8_lacking rfl rfl rfl (by decide +kernel) ⟨Nat.le_of_ble_eq_true rfl, Nat.le_of_ble_eq_true rfl⟩) hN hK hP hD [0, 1, 10, 11, 12, 13, 14, 15, 8, 9] rfl (by decide) rfl 0 rfl rfl rfl rfl hl.1 rfl (Nat.le_of_ble_eq_true rfl) dL_law_1613 ⟨lw_rc (a := ce) (k := 0) (by omega), lw_rs (a := sl) (k := 0) (by omega)⟩  ((k_X8_lacking l D cI cJ cK x0 xn xl xt xo xf xs xp xq xr xc f1 f2 s1 s2 o1 z nf fz fn fs sz sn ss oz of (sc (i + 1)) (sc (i + 2)) (sc (i + 3)) (sc (i + 4)) hz_z hR_nf hz_fz hz_sz hz_oz) _)) (fun r u H locs hp hPD hS => ?_)
  rcases hp with ⟨rfl, rfl, ho_1⟩ | ⟨t_2, fz_3, fn_4, fs_5, sz_6, sn_7, ss_8, oz_9, of_10, rfl, rfl, hhz_fz_11, hhz_sz_12, hhz_oz_13, hu1_14, hu2_15, hu3_16, hx1_17, hx2_18, hx3_19, kcR, kcT⟩
  ·
    obtain ⟨hP, hD⟩ := hPD rfl
    have hP : va_P D vwCl (lw_St cI cJ cK x0 xn xl xt xo xf xs xp xq xr xc l1 l2 l3 t1 o1 f1 f2 s1 s2 p1 q1 r1 r2 r3 r4 r5 w0 w1 w2 w3 w4 w5 w6 w7 c1 c2 m0 a_row a_tape a_number a_read a_readBits a_stands a_parted a_bitsWere a_stood a_chosen a_bestChosen a_often a_sorted a_risen a_risenWays o0 z nf lz lb lo ln tz tf oz of fz fn fs sz sn ss pz pa pn qw qb rz rv rw rk wf0 wf1 wf2 wf3 wf4 wf5 wf6 wf7 ro rt rb rd cl cg cw m_thrown m_told m_taped m_at m_to m_many m_readMany m_fewest m_size mr mt mn md mb ms mp mw mo mc me mf mg mi mj ou) H := hP
    have hD : va_D A (lw_St cI cJ cK x0 xn xl xt xo xf xs xp xq xr xc l1 l2 l3 t1 o1 f1 f2 s1 s2 p1 q1 r1 r2 r3 r4 r5 w0 w1 w2 w3 w4 w5 w6 w7 c1 c2 m0 a_row a_tape a_number a_read a_readBits a_stands a_parted a_bitsWere a_stood a_chosen a_bestChosen a_often a_sorted a_risen a_risenWays o0 z nf lz lb lo ln tz tf oz of fz fn fs sz sn ss pz pa pn qw qb rz rv rw rk wf0 wf1 wf2 wf3 wf4 wf5 wf6 wf7 ro rt rb rd cl cg cw m_thrown m_told m_taped m_at m_to m_many m_readMany m_fewest m_size mr mt mn md mb ms mp mw mo mc me mf mg mi mj ou) := hD
    refine lv_pop hx hb dL_law_1616 rfl ?_
    refine lv_aload_n hx hb dL_law_1617 rfl (lv_at hl 2 rfl) ?_
    refine lv_aload_n hx hb dL_law_1618 rfl (lv_at hl 0 rfl) ?_
    refine lv_iload hx hb dL_law_1619 (lv_at hl 4 rfl) ?_
    refine lv_iconst (v := 1) hx hb dL_law_1621 (by decide +kernel) ?_
    refine lv_iadd hx hb dL_law_1622 ?_
    refine my_eqi (y := nI (i + 1)) (my_addN i 1) ?_
    refine va_sld hx hb hX hbl hbA hS (vp_in_nI (by omega) (by omega)) dL_law_1623 ?_
    refine my_eqi (y := sc (i + 1)) (congrArg sc (nI_clamp (by omega))) ?_
    refine lv_aload_n hx hb dL_law_1624 rfl (lv_at hl 0 rfl) ?_
    refine lv_iload hx hb dL_law_1625 (lv_at hl 4 rfl) ?_
    refine lv_iconst (v := 2) hx hb dL_law_1627 (by decide +kernel) ?_
    refine lv_iadd hx hb dL_law_1628 ?_
    refine my_eqi (y := nI (i + 2)) (my_addN i 2) ?_
    refine va_sld hx hb hX hbl hbA hS (vp_in_nI (by omega) (by omega)) dL_law_1629 ?_
    refine my_eqi (y := sc (i + 2)) (congrArg sc (nI_clamp (by omega))) ?_
    refine lv_aload_n hx hb dL_law_1630 rfl (lv_at hl 0 rfl) ?_
    refine lv_iload hx hb dL_law_1631 (lv_at hl 4 rfl) ?_
    refine lv_iconst (v := 3) hx hb dL_law_1633 (by decide +kernel) ?_
    refine lv_iadd hx hb dL_law_1634 ?_
    refine my_eqi (y := nI (i + 3)) (my_addN i 3) ?_
    refine va_sld hx hb hX hbl hbA hS (vp_in_nI (by omega) (by omega)) dL_law_1635 ?_
    refine my_eqi (y := sc (i + 3)) (congrArg sc (nI_clamp (by omega))) ?_
    refine lv_aload_n hx hb dL_law_1636 rfl (lv_at hl 0 rfl) ?_
    refine lv_iload hx hb dL_law_1637 (lv_at hl 4 rfl) ?_
    refine lv_iconst (v := 4) hx hb dL_law_1639 (by decide +kernel) ?_
    refine lv_iadd hx hb dL_law_1640 ?_
    refine my_eqi (y := nI (i + 4)) (my_addN i 4) ?_
    refine va_sld hx hb hX hbl hbA hS (vp_in_nI (by omega) (by omega)) dL_law_1641 ?_
    refine my_eqi (y := sc (i + 4)) (congrArg sc (nI_clamp (by omega))) ?_
    refine my_goIS (wc := (wl_k_X9_lacking cI cJ cK m0 a_row a_tape a_number a_read a_readBits a_stands a_parted a_bitsWere a_stood a_chosen a_bestChosen a_often a_sorted a_risen a_risenWays m_thrown (nI m_told) (nI m_taped) (nI m_at) (nI m_to) (nI m_many) (nI m_readMany) m_fewest (nI m_size) mn mf mr)) hP hD hS hA [37, 40, 49, 38] rfl [none, none, none, none, none, none, none, none, none, none, none, none, none, none, none, none, none, none, none, none, none, none, none, none, none, none, none, none, none, none, none, none, none, none, none, none, none, some 0, some 3, none, some 1, none, none, none, none, none, none, none, none, some 2] (by decide +kernel) (my_cV (As := [.int (sc (i + 1)), .int (sc (i + 2)), .int (sc (i + 3)), .int (sc (i + 4))]) (rest := []) (ci := 9) (wc := (wl_k_X9_lacking cI cJ cK m0 a_row a_tape a_number a_read a_readBits a_stands a_parted a_bitsWere a_stood a_chosen a_bestChosen a_often a_sorted a_risen a_risenWays m_thrown (nI m_told) (nI m_taped) (nI m_at) (nI m_to) (nI m_many) (nI m_readMany) m_fewest (nI m_size) mn mf mr)) ⟨hx, hb, hml, hown, hts⟩ (cwV 4 hts gL_law_X9_lacking rfl rfl rfl (by decide +kernel) ⟨Nat.le_of_ble_eq_true rfl, Nat.le_of_ble_eq_true rfl⟩) hN hK hP hD [37, 40, 49, 38] rfl (by decide) rfl 37 rfl rfl rfl rfl hl.1 rfl (Nat.le_of_ble_eq_true rfl) dL_law_1642 ⟨lw_rc (a := ce + 0) (k := 0) (by omega), lw_rs (a := sl + 0) (k := 0) (by omega)⟩  ((k_X9_lacking l D cI cJ cK m0 a_row a_tape a_number a_read a_readBits a_stands a_parted a_bitsWere a_stood a_chosen a_bestChosen a_often a_sorted a_risen a_risenWays m_thrown m_told m_taped m_at m_to m_many m_readMany m_fewest m_size mn mf mr (sc (i + 1)) (sc (i + 2)) (sc (i + 3)) (sc (i + 4)) hz_m_told hz_m_taped hz_m_at hz_m_to hz_m_many hz_m_readMany hz_m_size hR_mn) _)) (fun r u H locs hp hPD hS => ?_)
    rcases hp with ⟨m_thrown_20, rfl, rfl, ho_21⟩ | ⟨t_22, m_thrown_23, m_told_24, mf_25, mr_26, rfl, rfl, hhz_m_told_27, hu1_28, hu2_29, hu3_30, hx1_31, hx2_32, hx3_33, krR, krT⟩
    ·
      obtain ⟨hP, hD⟩ := hPD rfl
      have hP : va_P D vwCl (lw_St cI cJ cK x0 xn xl xt xo xf xs xp xq xr xc l1 l2 l3 t1 o1 f1 f2 s1 s2 p1 q1 r1 r2 r3 r4 r5 w0 w1 w2 w3 w4 w5 w6 w7 c1 c2 m0 a_row a_tape a_number a_read a_readBits a_stands a_parted a_bitsWere a_stood a_chosen a_bestChosen a_often a_sorted a_risen a_risenWays o0 z nf lz lb lo ln tz tf oz of fz fn fs sz sn ss pz pa pn qw qb rz rv rw rk wf0 wf1 wf2 wf3 wf4 wf5 wf6 wf7 ro rt rb rd cl cg cw m_thrown_20 m_told m_taped m_at m_to m_many m_readMany m_fewest m_size mr mt mn md mb ms mp mw mo mc me mf mg mi mj ou) H := hP
      have hD : va_D A (lw_St cI cJ cK x0 xn xl xt xo xf xs xp xq xr xc l1 l2 l3 t1 o1 f1 f2 s1 s2 p1 q1 r1 r2 r3 r4 r5 w0 w1 w2 w3 w4 w5 w6 w7 c1 c2 m0 a_row a_tape a_number a_read a_readBits a_stands a_parted a_bitsWere a_stood a_chosen a_bestChosen a_often a_sorted a_risen a_risenWays o0 z nf lz lb lo ln tz tf oz of fz fn fs sz sn ss pz pa pn qw qb rz rv rw rk wf0 wf1 wf2 wf3 wf4 wf5 wf6 wf7 ro rt rb rd cl cg cw m_thrown_20 m_told m_taped m_at m_to m_many m_readMany m_fewest m_size mr mt mn md mb ms mp mw mo mc me mf mg mi mj ou) := hD
      refine lv_pop hx hb dL_law_1645 rfl ?_
      refine lv_goto (tgt := 1836) hx hb dL_law_1646 (by decide) ?_
      refine W.widen (k := ce + 6) (n := sl + 6) (show ce + 0 + 0 ≤ ce + 6 by omega) (show sl + 0 + 0 ≤ sl + 6 by omega) ?_
      exact kk z nf lz lb lo ln tz tf oz of fz fn fs sz sn ss pz pa pn qw qb rz rv rw rk wf0 wf1 wf2 wf3 wf4 wf5 wf6 wf7 ro rt rb rd cl cg cw m_thrown_20 m_told m_taped m_at m_to m_many m_readMany m_fewest m_size mr mt mn md mb ms mp mw mo mc me mf mg mi mj ou hz_z hR_nf hz_lz hR_lo hR_ln hz_tz hR_tf hz_oz hz_fz hz_sz hz_pz hz_pa hR_pn hz_qw hz_rz hz_rv hz_m_told hz_m_taped hz_m_at hz_m_to hz_m_many hz_m_readMany hz_m_size hR_mt hR_mn hR_md hR_mb hR_ms hR_mp hR_mo hR_mg hrel_t (by first | (exfalso; omega) | (rw [kcw, krw, show tz = tz + 4 from (by omega)]; exact sg_tie hrel_x hrel_t.symm) | exact hrel_x.le (by omega)) (by first | assumption | omega | (have h9 := (col_tie hrel_x nf mn).2.1; rw [← hrel_t] at krN; omega) | (have h9 := (pl_tie hrel_x).1; rw [← hrel_t] at krN; omega)) (by first | exact hrel_n | exact nm_put hrel_n kcF krF | exact nm_add hrel_n hrel_z kcF krF (by omega) | exact nm_col hrel_x hrel_t kcN krN kcF krF | exact nm_pl hrel_x hrel_t kcN krN kcF krF | exact nm_cut hrel_n hrel_z (by omega) (by omega) kcF krF | exact nm_swap hrel_n (by omega) (by omega) kcF krF | exact nm_rev hrel_n hrel_z (by omega) kcF krF) (by first | exact hrel_l | exact kcL.1) (by first | exact hrel_lz | exact kcL.2) (by first | assumption | omega) (by first | exact hrel_k | exact fun _ => kcK | exact fun h9 => absurd (by rw [kcS]; rfl) h9) _ _ ls hP hD hS (lv_sub hl [0, 1, 2, 3, 4] rfl)
    ·
      exfalso; omega
  ·
    obtain ⟨hP, hD⟩ := hPD rfl
    have hP : va_P D vwCl (lw_St cI cJ cK x0 xn xl xt xo xf xs xp xq xr xc l1 l2 l3 t1 o1 f1 f2 s1 s2 p1 q1 r1 r2 r3 r4 r5 w0 w1 w2 w3 w4 w5 w6 w7 c1 c2 m0 a_row a_tape a_number a_read a_readBits a_stands a_parted a_bitsWere a_stood a_chosen a_bestChosen a_often a_sorted a_risen a_risenWays o0 z nf lz lb lo ln tz tf oz_9 of_10 fz_3 fn_4 fs_5 sz_6 sn_7 ss_8 pz pa pn qw qb rz rv rw rk wf0 wf1 wf2 wf3 wf4 wf5 wf6 wf7 ro rt rb rd cl cg cw m_thrown m_told m_taped m_at m_to m_many m_readMany m_fewest m_size mr mt mn md mb ms mp mw mo mc me mf mg mi mj ou) H := hP
    have hD : va_D A (lw_St cI cJ cK x0 xn xl xt xo xf xs xp xq xr xc l1 l2 l3 t1 o1 f1 f2 s1 s2 p1 q1 r1 r2 r3 r4 r5 w0 w1 w2 w3 w4 w5 w6 w7 c1 c2 m0 a_row a_tape a_number a_read a_readBits a_stands a_parted a_bitsWere a_stood a_chosen a_bestChosen a_often a_sorted a_risen a_risenWays o0 z nf lz lb lo ln tz tf oz_9 of_10 fz_3 fn_4 fs_5 sz_6 sn_7 ss_8 pz pa pn qw qb rz rv rw rk wf0 wf1 wf2 wf3 wf4 wf5 wf6 wf7 ro rt rb rd cl cg cw m_thrown m_told m_taped m_at m_to m_many m_readMany m_fewest m_size mr mt mn md mb ms mp mw mo mc me mf mg mi mj ou) := hD
    refine lv_pop hx hb dL_law_1616 rfl ?_
    refine lv_aload_n hx hb dL_law_1617 rfl (lv_at hl 2 rfl) ?_
    refine lv_aload_n hx hb dL_law_1618 rfl (lv_at hl 0 rfl) ?_
    refine lv_iload hx hb dL_law_1619 (lv_at hl 4 rfl) ?_
    refine lv_iconst (v := 1) hx hb dL_law_1621 (by decide +kernel) ?_
    refine lv_iadd hx hb dL_law_1622 ?_
    refine my_eqi (y := nI (i + 1)) (my_addN i 1) ?_
    refine va_sld hx hb hX hbl hbA hS (vp_in_nI (by omega) (by omega)) dL_law_1623 ?_
    refine my_eqi (y := sc (i + 1)) (congrArg sc (nI_clamp (by omega))) ?_
    refine lv_aload_n hx hb dL_law_1624 rfl (lv_at hl 0 rfl) ?_
    refine lv_iload hx hb dL_law_1625 (lv_at hl 4 rfl) ?_
    refine lv_iconst (v := 2) hx hb dL_law_1627 (by decide +kernel) ?_
    refine lv_iadd hx hb dL_law_1628 ?_
    refine my_eqi (y := nI (i + 2)) (my_addN i 2) ?_
    refine va_sld hx hb hX hbl hbA hS (vp_in_nI (by omega) (by omega)) dL_law_1629 ?_
    refine my_eqi (y := sc (i + 2)) (congrArg sc (nI_clamp (by omega))) ?_
    refine lv_aload_n hx hb dL_law_1630 rfl (lv_at hl 0 rfl) ?_
    refine lv_iload hx hb dL_law_1631 (lv_at hl 4 rfl) ?_
    refine lv_iconst (v := 3) hx hb dL_law_1633 (by decide +kernel) ?_
    refine lv_iadd hx hb dL_law_1634 ?_
    refine my_eqi (y := nI (i + 3)) (my_addN i 3) ?_
    refine va_sld hx hb hX hbl hbA hS (vp_in_nI (by omega) (by omega)) dL_law_1635 ?_
    refine my_eqi (y := sc (i + 3)) (congrArg sc (nI_clamp (by omega))) ?_
    refine lv_aload_n hx hb dL_law_1636 rfl (lv_at hl 0 rfl) ?_
    refine lv_iload hx hb dL_law_1637 (lv_at hl 4 rfl) ?_
    refine lv_iconst (v := 4) hx hb dL_law_1639 (by decide +kernel) ?_
    refine lv_iadd hx hb dL_law_1640 ?_
    refine my_eqi (y := nI (i + 4)) (my_addN i 4) ?_
    refine va_sld hx hb hX hbl hbA hS (vp_in_nI (by omega) (by omega)) dL_law_1641 ?_
    refine my_eqi (y := sc (i + 4)) (congrArg sc (nI_clamp (by omega))) ?_
    refine my_goIS (wc := (wl_k_X9_lacking cI cJ cK m0 a_row a_tape a_number a_read a_readBits a_stands a_parted a_bitsWere a_stood a_chosen a_bestChosen a_often a_sorted a_risen a_risenWays m_thrown (nI m_told) (nI m_taped) (nI m_at) (nI m_to) (nI m_many) (nI m_readMany) m_fewest (nI m_size) mn mf mr)) hP hD hS hA [37, 40, 49, 38] rfl [none, none, none, none, none, none, none, none, none, none, none, none, none, none, none, none, none, none, none, none, none, none, none, none, none, none, none, none, none, none, none, none, none, none, none, none, none, some 0, some 3, none, some 1, none, none, none, none, none, none, none, none, some 2] (by decide +kernel) (my_cV (As := [.int (sc (i + 1)), .int (sc (i + 2)), .int (sc (i + 3)), .int (sc (i + 4))]) (rest := []) (ci := 9) (wc := (wl_k_X9_lacking cI cJ cK m0 a_row a_tape a_number a_read a_readBits a_stands a_parted a_bitsWere a_stood a_chosen a_bestChosen a_often a_sorted a_risen a_risenWays m_thrown (nI m_told) (nI m_taped) (nI m_at) (nI m_to) (nI m_many) (nI m_readMany) m_fewest (nI m_size) mn mf mr)) ⟨hx, hb, hml, hown, hts⟩ (cwV 4 hts gL_law_X9_lacking rfl rfl rfl (by decide +kernel) ⟨Nat.le_of_ble_eq_true rfl, Nat.le_of_ble_eq_true rfl⟩) hN hK hP hD [37, 40, 49, 38] rfl (by decide) rfl 37 rfl rfl rfl rfl hl.1 rfl (Nat.le_of_ble_eq_true rfl) dL_law_1642 ⟨lw_rc (a := ce + 0) (k := 0) (by omega), lw_rs (a := sl + 0) (k := 0) (by omega)⟩  ((k_X9_lacking l D cI cJ cK m0 a_row a_tape a_number a_read a_readBits a_stands a_parted a_bitsWere a_stood a_chosen a_bestChosen a_often a_sorted a_risen a_risenWays m_thrown m_told m_taped m_at m_to m_many m_readMany m_fewest m_size mn mf mr (sc (i + 1)) (sc (i + 2)) (sc (i + 3)) (sc (i + 4)) hz_m_told hz_m_taped hz_m_at hz_m_to hz_m_many hz_m_readMany hz_m_size hR_mn) _)) (fun r u H locs hp hPD hS => ?_)
    rcases hp with ⟨m_thrown_34, rfl, rfl, ho_35⟩ | ⟨t_36, m_thrown_37, m_told_38, mf_39, mr_40, rfl, rfl, hhz_m_told_41, hu1_42, hu2_43, hu3_44, hx1_45, hx2_46, hx3_47, krR, krT⟩
    ·
      exfalso; omega
    ·
      obtain ⟨hP, hD⟩ := hPD rfl
      have hP : va_P D vwCl (lw_St cI cJ cK x0 xn xl xt xo xf xs xp xq xr xc l1 l2 l3 t1 o1 f1 f2 s1 s2 p1 q1 r1 r2 r3 r4 r5 w0 w1 w2 w3 w4 w5 w6 w7 c1 c2 m0 a_row a_tape a_number a_read a_readBits a_stands a_parted a_bitsWere a_stood a_chosen a_bestChosen a_often a_sorted a_risen a_risenWays o0 z nf lz lb lo ln tz tf oz_9 of_10 fz_3 fn_4 fs_5 sz_6 sn_7 ss_8 pz pa pn qw qb rz rv rw rk wf0 wf1 wf2 wf3 wf4 wf5 wf6 wf7 ro rt rb rd cl cg cw m_thrown_37 m_told_38 m_taped m_at m_to m_many m_readMany m_fewest m_size mr_40 mt mn md mb ms mp mw mo mc me mf_39 mg mi mj ou) H := hP
      have hD : va_D A (lw_St cI cJ cK x0 xn xl xt xo xf xs xp xq xr xc l1 l2 l3 t1 o1 f1 f2 s1 s2 p1 q1 r1 r2 r3 r4 r5 w0 w1 w2 w3 w4 w5 w6 w7 c1 c2 m0 a_row a_tape a_number a_read a_readBits a_stands a_parted a_bitsWere a_stood a_chosen a_bestChosen a_often a_sorted a_risen a_risenWays o0 z nf lz lb lo ln tz tf oz_9 of_10 fz_3 fn_4 fs_5 sz_6 sn_7 ss_8 pz pa pn qw qb rz rv rw rk wf0 wf1 wf2 wf3 wf4 wf5 wf6 wf7 ro rt rb rd cl cg cw m_thrown_37 m_told_38 m_taped m_at m_to m_many m_readMany m_fewest m_size mr_40 mt mn md mb ms mp mw mo mc me mf_39 mg mi mj ou) := hD
      refine lv_pop hx hb dL_law_1645 rfl ?_
      refine lv_goto (tgt := 1836) hx hb dL_law_1646 (by decide) ?_
      refine W.widen (k := ce + 6) (n := sl + 6) (show ce + 0 + 0 ≤ ce + 6 by omega) (show sl + 0 + 0 ≤ sl + 6 by omega) ?_
      exact kk z nf lz lb lo ln tz tf oz_9 of_10 fz_3 fn_4 fs_5 sz_6 sn_7 ss_8 pz pa pn qw qb rz rv rw rk wf0 wf1 wf2 wf3 wf4 wf5 wf6 wf7 ro rt rb rd cl cg cw m_thrown_37 m_told_38 m_taped m_at m_to m_many m_readMany m_fewest m_size mr_40 mt mn md mb ms mp mw mo mc me mf_39 mg mi mj ou hz_z hR_nf hz_lz hR_lo hR_ln hz_tz hR_tf (by first | assumption | omega | rfl) (by first | assumption | omega | rfl) (by first | assumption | omega | rfl) hz_pz hz_pa hR_pn hz_qw hz_rz hz_rv (by first | assumption | omega | rfl) hz_m_taped hz_m_at hz_m_to hz_m_many hz_m_readMany hz_m_size hR_mt hR_mn hR_md hR_mb hR_ms hR_mp hR_mo hR_mg hrel_t (by first | (exfalso; omega) | (rw [kcw, krw, show tz = tz + 4 from (by omega)]; exact sg_tie hrel_x hrel_t.symm) | exact hrel_x.le (by omega)) (by first | assumption | omega | (have h9 := (col_tie hrel_x nf mn).2.1; rw [← hrel_t] at krN; omega) | (have h9 := (pl_tie hrel_x).1; rw [← hrel_t] at krN; omega)) (by first | exact hrel_n | exact nm_put hrel_n kcF krF | exact nm_add hrel_n hrel_z kcF krF (by omega) | exact nm_col hrel_x hrel_t kcN krN kcF krF | exact nm_pl hrel_x hrel_t kcN krN kcF krF | exact nm_cut hrel_n hrel_z (by omega) (by omega) kcF krF | exact nm_swap hrel_n (by omega) (by omega) kcF krF | exact nm_rev hrel_n hrel_z (by omega) kcF krF) (by first | exact hrel_l | exact kcL.1) (by first | exact hrel_lz | exact kcL.2) (by rw [kcT, krT, kcR, krR, cnF_tie (a := (sc (i + 1)).toInt.toNat) (b := (sc (i + 2)).toInt.toNat) hrel_n (by omega), cnF_tie (a := (sc (i + 3)).toInt.toNat) (b := (sc (i + 4)).toInt.toNat) hrel_n (by omega)]) (by first | exact hrel_k | exact fun _ => kcK | exact fun h9 => absurd (by rw [kcS]; rfl) h9) _ _ ls hP hD hS (lv_sub hl [0, 1, 2, 3, 4] rfl)
set_option maxHeartbeats 8000000 in
set_option maxRecDepth 100000 in
theorem law_case_37 {p : Program} {l : Launch} {e : Env} {s : State} {m : MethodId} {below : List Frame} {meth : Method} {c : Code} {D : va_G} {cI cJ cK : ClassId} {b L i : Nat} {sc : Nat → Int32} (C0 : lw_At p s m meth c b L sc) (hK : va_K D vwCl (tyIJ cI cJ cK) s) (hN : nw s) {A : Nat → Prop} (hAe : A = fun q : Nat => s.heap.size ≤ q) (hL : L ≤ 3072) (hi : i + 6 ≤ L) {ce sl : Nat} (hce : ce + 6 ≤ 601022) (hsl : sl + 6 ≤ 7293032) (x0 : Nat) (xn : Nat) (xl : Nat) (xt : Nat) (xo : Nat) (xf : Nat) (xs : Nat) (xp : Nat) (xq : Nat) (xr : Nat) (xc : Nat) (l1 : Nat) (l2 : Nat) (l3 : Nat) (t1 : Nat) (o1 : Nat) (f1 : Nat) (f2 : Nat) (s1 : Nat) (s2 : Nat) (p1 : Nat) (q1 : Nat) (r1 : Nat) (r2 : Nat) (r3 : Nat) (r4 : Nat) (r5 : Nat) (w0 : Nat) (w1 : Nat) (w2 : Nat) (w3 : Nat) (w4 : Nat) (w5 : Nat) (w6 : Nat) (w7 : Nat) (c1 : Nat) (c2 : Nat) (m0 : Nat) (a_row : Nat) (a_tape : Nat) (a_number : Nat) (a_read : Nat) (a_readBits : Nat) (a_stands : Nat) (a_parted : Nat) (a_bitsWere : Nat) (a_stood : Nat) (a_chosen : Nat) (a_bestChosen : Nat) (a_often : Nat) (a_sorted : Nat) (a_risen : Nat) (a_risenWays : Nat) (o0 : Nat) (z : Nat) (nf : Nat → Int32) (lz : Nat) (lb : Nat → Int64) (lo : Nat → Int32) (ln : Nat → Int32) (tz : Nat) (tf : Nat → Int32) (oz : Nat) (of : Nat → Int64) (fz : Nat) (fn : Nat → Int32) (fs : Nat → Int32) (sz : Nat) (sn : Nat → Int32) (ss : Nat → Int32) (pz : Nat) (pa : Nat) (pn : Nat → Int32) (qw : Nat) (qb : Nat → Int64) (rz : Nat) (rv : Nat) (rw : Int32) (rk : Int32) (wf0 : Nat → Int64) (wf1 : Nat → Int64) (wf2 : Nat → Int64) (wf3 : Nat → Int64) (wf4 : Nat → Int64) (wf5 : Nat → Int64) (wf6 : Nat → Int64) (wf7 : Nat → Int64) (ro : Nat → Int64) (rt : Nat → Int32) (rb : Nat → Int32) (rd : Nat → Int32) (cl : Int32) (cg : Nat → Int32) (cw : Nat → Int64) (m_thrown : Int32) (m_told : Nat) (m_taped : Nat) (m_at : Nat) (m_to : Nat) (m_many : Nat) (m_readMany : Nat) (m_fewest : Int32) (m_size : Nat) (mr : Nat → Int64) (mt : Nat → Int32) (mn : Nat → Int32) (md : Nat → Int32) (mb : Nat → Int32) (ms : Nat → Int32) (mp : Nat → Int32) (mw : Nat → Int32) (mo : Nat → Int32) (mc : Nat → Int32) (me : Nat → Int32) (mf : Nat → Int32) (mg : Nat → Int32) (mi : Nat → Int32) (mj : Nat → Int64) (ou : Nat → Int64) (hz_z : z ≤ 64) (hR_nf : RB 0 255 nf) (hz_lz : lz ≤ 64) (hR_lo : RB 0 63 lo) (hR_ln : RB 0 63 ln) (hz_tz : tz ≤ 100) (hR_tf : RB 0 255 tf) (hz_oz : oz ≤ 64) (hz_fz : fz ≤ 64) (hz_sz : sz ≤ 64) (hz_pz : pz ≤ 64) (hz_pa : pa ≤ 100) (hR_pn : RB 0 255 pn) (hz_qw : qw ≤ 11) (hz_rz : rz ≤ 64) (hz_rv : rv ≤ 8) (hz_m_told : m_told ≤ 64) (hz_m_taped : m_taped ≤ 100) (hz_m_at : m_at ≤ 100) (hz_m_to : m_to ≤ 100) (hz_m_many : m_many ≤ 64) (hz_m_readMany : m_readMany ≤ 64) (hz_m_size : m_size ≤ 64) (hR_mt : RB 0 255 mt) (hR_mn : RB 0 255 mn) (hR_md : RB 0 255 md) (hR_mb : RB 0 1 mb) (hR_ms : RB 0 63 ms) (hR_mp : RB 0 63 mp) (hR_mo : RB 0 63 mo) (hR_mg : RB 0 255 mg) (hrel_t : tz = m_taped) (hrel_x : txEq tz tf mt) (hrel_z : z = m_many) (hrel_n : ∀ j, j < z → nf j = mn j) (hrel_l : LVL lb nf z) (hrel_lz : lz = z) (hrel_o : oz = m_told) (hrel_k : rk.toInt ≠ 0 → rw = nI (thF nf z)) (H : Heap) (locs : List Loc) (ls : Array Slot) (hP : va_P D vwCl (lw_St cI cJ cK x0 xn xl xt xo xf xs xp xq xr xc l1 l2 l3 t1 o1 f1 f2 s1 s2 p1 q1 r1 r2 r3 r4 r5 w0 w1 w2 w3 w4 w5 w6 w7 c1 c2 m0 a_row a_tape a_number a_read a_readBits a_stands a_parted a_bitsWere a_stood a_chosen a_bestChosen a_often a_sorted a_risen a_risenWays o0 z nf lz lb lo ln tz tf oz of fz fn fs sz sn ss pz pa pn qw qb rz rv rw rk wf0 wf1 wf2 wf3 wf4 wf5 wf6 wf7 ro rt rb rd cl cg cw m_thrown m_told m_taped m_at m_to m_many m_readMany m_fewest m_size mr mt mn md mb ms mp mw mo mc me mf mg mi mj ou) H) (hD : va_D A (lw_St cI cJ cK x0 xn xl xt xo xf xs xp xq xr xc l1 l2 l3 t1 o1 f1 f2 s1 s2 p1 q1 r1 r2 r3 r4 r5 w0 w1 w2 w3 w4 w5 w6 w7 c1 c2 m0 a_row a_tape a_number a_read a_readBits a_stands a_parted a_bitsWere a_stood a_chosen a_bestChosen a_often a_sorted a_risen a_risenWays o0 z nf lz lb lo ln tz tf oz of fz fn fs sz sn ss pz pa pn qw qb rz rv rw rk wf0 wf1 wf2 wf3 wf4 wf5 wf6 wf7 ro rt rb rd cl cg cw m_thrown m_told m_taped m_at m_to m_many m_readMany m_fewest m_size mr mt mn md mb ms mp mw mo mc me mf mg mi mj ou)) (hS : va_S A s.heap H locs) (hl : lv_has ls 8 [(0, .ref b), (1, .ref x0), (2, .ref m0), (3, .ref o0), (4, .int (nI i))]) (kk : ∀ (z : Nat) (nf : Nat → Int32) (lz : Nat) (lb : Nat → Int64) (lo : Nat → Int32) (ln : Nat → Int32) (tz : Nat) (tf : Nat → Int32) (oz : Nat) (of : Nat → Int64) (fz : Nat) (fn : Nat → Int32) (fs : Nat → Int32) (sz : Nat) (sn : Nat → Int32) (ss : Nat → Int32) (pz : Nat) (pa : Nat) (pn : Nat → Int32) (qw : Nat) (qb : Nat → Int64) (rz : Nat) (rv : Nat) (rw : Int32) (rk : Int32) (wf0 : Nat → Int64) (wf1 : Nat → Int64) (wf2 : Nat → Int64) (wf3 : Nat → Int64) (wf4 : Nat → Int64) (wf5 : Nat → Int64) (wf6 : Nat → Int64) (wf7 : Nat → Int64) (ro : Nat → Int64) (rt : Nat → Int32) (rb : Nat → Int32) (rd : Nat → Int32) (cl : Int32) (cg : Nat → Int32) (cw : Nat → Int64) (m_thrown : Int32) (m_told : Nat) (m_taped : Nat) (m_at : Nat) (m_to : Nat) (m_many : Nat) (m_readMany : Nat) (m_fewest : Int32) (m_size : Nat) (mr : Nat → Int64) (mt : Nat → Int32) (mn : Nat → Int32) (md : Nat → Int32) (mb : Nat → Int32) (ms : Nat → Int32) (mp : Nat → Int32) (mw : Nat → Int32) (mo : Nat → Int32) (mc : Nat → Int32) (me : Nat → Int32) (mf : Nat → Int32) (mg : Nat → Int32) (mi : Nat → Int32) (mj : Nat → Int64) (ou : Nat → Int64), (z ≤ 64) → (RB 0 255 nf) → (lz ≤ 64) → (RB 0 63 lo) → (RB 0 63 ln) → (tz ≤ 100) → (RB 0 255 tf) → (oz ≤ 64) → (fz ≤ 64) → (sz ≤ 64) → (pz ≤ 64) → (pa ≤ 100) → (RB 0 255 pn) → (qw ≤ 11) → (rz ≤ 64) → (rv ≤ 8) → (m_told ≤ 64) → (m_taped ≤ 100) → (m_at ≤ 100) → (m_to ≤ 100) → (m_many ≤ 64) → (m_readMany ≤ 64) → (m_size ≤ 64) → (RB 0 255 mt) → (RB 0 255 mn) → (RB 0 255 md) → (RB 0 1 mb) → (RB 0 63 ms) → (RB 0 63 mp) → (RB 0 63 mo) → (RB 0 255 mg) → (tz = m_taped) → (txEq tz tf mt) → (z = m_many) → (∀ j, j < z → nf j = mn j) → (LVL lb nf z) → (lz = z) → (oz = m_told) → (rk.toInt ≠ 0 → rw = nI (thF nf z)) → ∀ (H : Heap) (locs : List Loc) (ls : Array Slot), va_P D vwCl (lw_St cI cJ cK x0 xn xl xt xo xf xs xp xq xr xc l1 l2 l3 t1 o1 f1 f2 s1 s2 p1 q1 r1 r2 r3 r4 r5 w0 w1 w2 w3 w4 w5 w6 w7 c1 c2 m0 a_row a_tape a_number a_read a_readBits a_stands a_parted a_bitsWere a_stood a_chosen a_bestChosen a_often a_sorted a_risen a_risenWays o0 z nf lz lb lo ln tz tf oz of fz fn fs sz sn ss pz pa pn qw qb rz rv rw rk wf0 wf1 wf2 wf3 wf4 wf5 wf6 wf7 ro rt rb rd cl cg cw m_thrown m_told m_taped m_at m_to m_many m_readMany m_fewest m_size mr mt mn md mb ms mp mw mo mc me mf mg mi mj ou) H → va_D A (lw_St cI cJ cK x0 xn xl xt xo xf xs xp xq xr xc l1 l2 l3 t1 o1 f1 f2 s1 s2 p1 q1 r1 r2 r3 r4 r5 w0 w1 w2 w3 w4 w5 w6 w7 c1 c2 m0 a_row a_tape a_number a_read a_readBits a_stands a_parted a_bitsWere a_stood a_chosen a_bestChosen a_often a_sorted a_risen a_risenWays o0 z nf lz lb lo ln tz tf oz of fz fn fs sz sn ss pz pa pn qw qb rz rv rw rk wf0 wf1 wf2 wf3 wf4 wf5 wf6 wf7 ro rt rb rd cl cg cw m_thrown m_told m_taped m_at m_to m_many m_readMany m_fewest m_size mr mt mn md mb ms mp mw mo mc me mf mg mi mj ou) → va_S A s.heap H locs → lv_has ls 8 [(0, .ref b), (1, .ref x0), (2, .ref m0), (3, .ref o0), (4, .int (nI i))] → W p l e room_1 s m #[Value.ref b] below meth c H locs (ce + 6) (sl + 6) (lw_Z below #[Value.ref b] s) (F0 m 1836 ls [])) : W p l e room_1 s m #[Value.ref b] below meth c H locs ce sl (lw_Z below #[Value.ref b] s) (F0 m 1649 ls []) := by
  obtain ⟨hx, hb, hr, hml, hown, hts, hX, hbl, hlocks, hgv⟩ := id C0
  have hts := fun w h => hts w (wsL_law_in w h)
  have hown : s.vm.findClass RL = some m.cls := hown
  have hb : c.code = cL_law := hb
  have hA : ∀ q : Nat, s.heap.size ≤ q → A q := fun q h => by rw [hAe]; exact h
  have hbA : ¬ A b := by rw [hAe]; exact Nat.not_le.mpr hbl
  refine lv_aload_n hx hb dL_law_1649 rfl (lv_at hl 1 rfl) ?_
  refine lv_aload_n hx hb dL_law_1650 rfl (lv_at hl 0 rfl) ?_
  refine lv_iload hx hb dL_law_1651 (lv_at hl 4 rfl) ?_
  refine lv_iconst (v := 1) hx hb dL_law_1653 (by decide +kernel) ?_
  refine lv_iadd hx hb dL_law_1654 ?_
  refine my_eqi (y := nI (i + 1)) (my_addN i 1) ?_
  refine va_sld hx hb hX hbl hbA hS (vp_in_nI (by omega) (by omega)) dL_law_1655 ?_
  refine my_eqi (y := sc (i + 1)) (congrArg sc (nI_clamp (by omega))) ?_
  refine lv_aload_n hx hb dL_law_1656 rfl (lv_at hl 0 rfl) ?_
  refine lv_iload hx hb dL_law_1657 (lv_at hl 4 rfl) ?_
  refine lv_iconst (v := 2) hx hb dL_law_1659 (by decide +kernel) ?_
  refine lv_iadd hx hb dL_law_1660 ?_
  refine my_eqi (y := nI (i + 2)) (my_addN i 2) ?_
  refine va_sld hx hb hX hbl hbA hS (vp_in_nI (by omega) (by omega)) dL_law_1661 ?_
  refine my_eqi (y := sc (i + 2)) (congrArg sc (nI_clamp (by omega))) ?_
  refine lv_aload_n hx hb dL_law_1662 rfl (lv_at hl 0 rfl) ?_
  refine lv_iload hx hb dL_law_1663 (lv_at hl 4 rfl) ?_
  refine lv_iconst (v := 3) hx hb dL_law_1665 (by decide +kernel) ?_
  refine lv_iadd hx hb dL_law_1666 ?_
  refine my_eqi (y := nI (i + 3)) (my_addN i 3) ?_
  refine va_sld hx hb hX hbl hbA hS (vp_in_nI (by omega) (by omega)) dL_law_1667 ?_
  refine my_eqi (y := sc (i + 3)) (congrArg sc (nI_clamp (by omega))) ?_
  refine lv_aload_n hx hb dL_law_1668 rfl (lv_at hl 0 rfl) ?_
  refine lv_iload hx hb dL_law_1669 (lv_at hl 4 rfl) ?_
  refine lv_iconst (v := 4) hx hb dL_law_1671 (by decide +kernel) ?_
  refine lv_iadd hx hb dL_law_1672 ?_
  refine my_eqi (y := nI (i + 4)) (my_addN i 4) ?_
  refine va_sld hx hb hX hbl hbA hS (vp_in_nI (by omega) (by omega)) dL_law_1673 ?_
  refine my_eqi (y := sc (i + 4)) (congrArg sc (nI_clamp (by omega))) ?_
  refine lv_aload_n hx hb dL_law_1674 rfl (lv_at hl 0 rfl) ?_
  refine lv_iload hx hb dL_law_1675 (lv_at hl 4 rfl) ?_
  refine lv_iconst (v := 5) hx hb dL_law_1677 (by decide +kernel) ?_
  refine lv_iadd hx hb dL_law_1678 ?_
  refine my_eqi (y := nI (i + 5)) (my_addN i 5) ?_
  refine va_sld hx hb hX hbl hbA hS (vp_in_nI (by omega) (by omega)) dL_law_1679 ?_
  refine my_eqi (y := sc (i + 5)) (congrArg sc (nI_clamp (by omega))) ?_
  refine my_goIS (wc := (wl_k_X8_both cI cJ cK x0 xn xl xt xo xf xs xp xq xr xc f1 f2 s1 s2 o1 (nI z) nf (nI fz) fn fs (nI sz) sn ss (nI oz) of)) hP hD hS hA [0, 1, 10, 11, 12, 13, 14, 15, 8, 9] rfl [some 0, some 1, none, none, none, none, none, none, some 8, some 9, some 2, some 3, some 4, some 5, some 6, some 7] (by decide +kernel) (my_cV (As := [.int (sc (i + 1)), .int (sc (i + 2)), .int (sc (i + 3)), .int (sc (i + 4)), .int (sc (i + 5))]) (rest := []) (ci := 8) (wc := (wl_k_X8_both cI cJ cK x0 xn xl xt xo xf xs xp xq xr xc f1 f2 s1 s2 o1 (nI z) nf (nI fz) fn fs (nI sz) sn ss (nI oz) of)) ⟨hx, hb, hml, hown, hts⟩ (cwV 5 hts gL_law_X8_both rfl rfl rfl (by decide +kernel) ⟨Nat.le_of_ble_eq_true rfl, Nat.le_of_ble_eq_true rfl⟩) hN hK hP hD [0, 1, 10, 11, 12, 13, 14, 15, 8, 9] rfl (by decide) rfl 0 rfl rfl rfl rfl hl.1 rfl (Nat.le_of_ble_eq_true rfl) dL_law_1680 ⟨lw_rc (a := ce) (k := 0) (by omega), lw_rs (a := sl) (k := 0) (by omega)⟩  ((k_X8_both l D cI cJ cK x0 xn xl xt xo xf xs xp xq xr xc f1 f2 s1 s2 o1 z nf fz fn fs sz sn ss oz of (sc (i + 1)) (sc (i + 2)) (sc (i + 3)) (sc (i + 4)) (sc (i + 5)) hz_z hR_nf hz_fz hz_sz hz_oz) _)) (fun r u H locs hp hPD hS => ?_)
  rcases hp with ⟨rfl, rfl, ho_1⟩ | ⟨fz_2, fn_3, fs_4, sz_5, sn_6, ss_7, oz_8, of_9, rfl, rfl, hhz_fz_10, hhz_sz_11, hhz_oz_12, hu1_13, hu2_14, hu3_15, hx1_16, hx2_17, hx3_18, hu4_19, kcT⟩ | ⟨t_20, fz_21, fn_22, fs_23, sz_24, sn_25, ss_26, oz_27, of_28, rfl, rfl, hhz_fz_29, hhz_sz_30, hhz_oz_31, hu1_32, hu2_33, hu3_34, hx1_35, hx2_36, hx3_37, hu4_38, hu5_39, hu6_40, kcR, kcT⟩
  ·
    obtain ⟨hP, hD⟩ := hPD rfl
    have hP : va_P D vwCl (lw_St cI cJ cK x0 xn xl xt xo xf xs xp xq xr xc l1 l2 l3 t1 o1 f1 f2 s1 s2 p1 q1 r1 r2 r3 r4 r5 w0 w1 w2 w3 w4 w5 w6 w7 c1 c2 m0 a_row a_tape a_number a_read a_readBits a_stands a_parted a_bitsWere a_stood a_chosen a_bestChosen a_often a_sorted a_risen a_risenWays o0 z nf lz lb lo ln tz tf oz of fz fn fs sz sn ss pz pa pn qw qb rz rv rw rk wf0 wf1 wf2 wf3 wf4 wf5 wf6 wf7 ro rt rb rd cl cg cw m_thrown m_told m_taped m_at m_to m_many m_readMany m_fewest m_size mr mt mn md mb ms mp mw mo mc me mf mg mi mj ou) H := hP
    have hD : va_D A (lw_St cI cJ cK x0 xn xl xt xo xf xs xp xq xr xc l1 l2 l3 t1 o1 f1 f2 s1 s2 p1 q1 r1 r2 r3 r4 r5 w0 w1 w2 w3 w4 w5 w6 w7 c1 c2 m0 a_row a_tape a_number a_read a_readBits a_stands a_parted a_bitsWere a_stood a_chosen a_bestChosen a_often a_sorted a_risen a_risenWays o0 z nf lz lb lo ln tz tf oz of fz fn fs sz sn ss pz pa pn qw qb rz rv rw rk wf0 wf1 wf2 wf3 wf4 wf5 wf6 wf7 ro rt rb rd cl cg cw m_thrown m_told m_taped m_at m_to m_many m_readMany m_fewest m_size mr mt mn md mb ms mp mw mo mc me mf mg mi mj ou) := hD
    refine lv_pop hx hb dL_law_1683 rfl ?_
    refine lv_aload_n hx hb dL_law_1684 rfl (lv_at hl 2 rfl) ?_
    refine lv_aload_n hx hb dL_law_1685 rfl (lv_at hl 0 rfl) ?_
    refine lv_iload hx hb dL_law_1686 (lv_at hl 4 rfl) ?_
    refine lv_iconst (v := 1) hx hb dL_law_1688 (by decide +kernel) ?_
    refine lv_iadd hx hb dL_law_1689 ?_
    refine my_eqi (y := nI (i + 1)) (my_addN i 1) ?_
    refine va_sld hx hb hX hbl hbA hS (vp_in_nI (by omega) (by omega)) dL_law_1690 ?_
    refine my_eqi (y := sc (i + 1)) (congrArg sc (nI_clamp (by omega))) ?_
    refine lv_aload_n hx hb dL_law_1691 rfl (lv_at hl 0 rfl) ?_
    refine lv_iload hx hb dL_law_1692 (lv_at hl 4 rfl) ?_
    refine lv_iconst (v := 2) hx hb dL_law_1694 (by decide +kernel) ?_
    refine lv_iadd hx hb dL_law_1695 ?_
    refine my_eqi (y := nI (i + 2)) (my_addN i 2) ?_
    refine va_sld hx hb hX hbl hbA hS (vp_in_nI (by omega) (by omega)) dL_law_1696 ?_
    refine my_eqi (y := sc (i + 2)) (congrArg sc (nI_clamp (by omega))) ?_
    refine lv_aload_n hx hb dL_law_1697 rfl (lv_at hl 0 rfl) ?_
    refine lv_iload hx hb dL_law_1698 (lv_at hl 4 rfl) ?_
    refine lv_iconst (v := 3) hx hb dL_law_1700 (by decide +kernel) ?_
    refine lv_iadd hx hb dL_law_1701 ?_
    refine my_eqi (y := nI (i + 3)) (my_addN i 3) ?_
    refine va_sld hx hb hX hbl hbA hS (vp_in_nI (by omega) (by omega)) dL_law_1702 ?_
    refine my_eqi (y := sc (i + 3)) (congrArg sc (nI_clamp (by omega))) ?_
    refine lv_aload_n hx hb dL_law_1703 rfl (lv_at hl 0 rfl) ?_
    refine lv_iload hx hb dL_law_1704 (lv_at hl 4 rfl) ?_
    refine lv_iconst (v := 4) hx hb dL_law_1706 (by decide +kernel) ?_
    refine lv_iadd hx hb dL_law_1707 ?_
    refine my_eqi (y := nI (i + 4)) (my_addN i 4) ?_
    refine va_sld hx hb hX hbl hbA hS (vp_in_nI (by omega) (by omega)) dL_law_1708 ?_
    refine my_eqi (y := sc (i + 4)) (congrArg sc (nI_clamp (by omega))) ?_
    refine lv_aload_n hx hb dL_law_1709 rfl (lv_at hl 0 rfl) ?_
    refine lv_iload hx hb dL_law_1710 (lv_at hl 4 rfl) ?_
    refine lv_iconst (v := 5) hx hb dL_law_1712 (by decide +kernel) ?_
    refine lv_iadd hx hb dL_law_1713 ?_
    refine my_eqi (y := nI (i + 5)) (my_addN i 5) ?_
    refine va_sld hx hb hX hbl hbA hS (vp_in_nI (by omega) (by omega)) dL_law_1714 ?_
    refine my_eqi (y := sc (i + 5)) (congrArg sc (nI_clamp (by omega))) ?_
    refine my_goIS (wc := (wl_k_X9_both cI cJ cK m0 a_row a_tape a_number a_read a_readBits a_stands a_parted a_bitsWere a_stood a_chosen a_bestChosen a_often a_sorted a_risen a_risenWays m_thrown (nI m_told) (nI m_taped) (nI m_at) (nI m_to) (nI m_many) (nI m_readMany) m_fewest (nI m_size) mn mf mr)) hP hD hS hA [37, 40, 49, 38] rfl [none, none, none, none, none, none, none, none, none, none, none, none, none, none, none, none, none, none, none, none, none, none, none, none, none, none, none, none, none, none, none, none, none, none, none, none, none, some 0, some 3, none, some 1, none, none, none, none, none, none, none, none, some 2] (by decide +kernel) (my_cV (As := [.int (sc (i + 1)), .int (sc (i + 2)), .int (sc (i + 3)), .int (sc (i + 4)), .int (sc (i + 5))]) (rest := []) (ci := 9) (wc := (wl_k_X9_both cI cJ cK m0 a_row a_tape a_number a_read a_readBits a_stands a_parted a_bitsWere a_stood a_chosen a_bestChosen a_often a_sorted a_risen a_risenWays m_thrown (nI m_told) (nI m_taped) (nI m_at) (nI m_to) (nI m_many) (nI m_readMany) m_fewest (nI m_size) mn mf mr)) ⟨hx, hb, hml, hown, hts⟩ (cwV 5 hts gL_law_X9_both rfl rfl rfl (by decide +kernel) ⟨Nat.le_of_ble_eq_true rfl, Nat.le_of_ble_eq_true rfl⟩) hN hK hP hD [37, 40, 49, 38] rfl (by decide) rfl 37 rfl rfl rfl rfl hl.1 rfl (Nat.le_of_ble_eq_true rfl) dL_law_1715 ⟨lw_rc (a := ce + 0) (k := 0) (by omega), lw_rs (a := sl + 0) (k := 0) (by omega)⟩  ((k_X9_both l D cI cJ cK m0 a_row a_tape a_number a_read a_readBits a_stands a_parted a_bitsWere a_stood a_chosen a_bestChosen a_often a_sorted a_risen a_risenWays m_thrown m_told m_taped m_at m_to m_many m_readMany m_fewest m_size mn mf mr (sc (i + 1)) (sc (i + 2)) (sc (i + 3)) (sc (i + 4)) (sc (i + 5)) hz_m_told hz_m_taped hz_m_at hz_m_to hz_m_many hz_m_readMany hz_m_size hR_mn) _)) (fun r u H locs hp hPD hS => ?_)
    rcases hp with ⟨m_thrown_41, rfl, rfl, ho_42⟩ | ⟨m_thrown_43, m_told_44, mf_45, mr_46, rfl, rfl, hhz_m_told_47, hu1_48, hu2_49, hu3_50, hx1_51, hx2_52, hx3_53, hu4_54, krT⟩ | ⟨t_55, m_thrown_56, m_told_57, mf_58, mr_59, rfl, rfl, hhz_m_told_60, hu1_61, hu2_62, hu3_63, hx1_64, hx2_65, hx3_66, hu4_67, hu5_68, hu6_69, krR, krT⟩
    ·
      obtain ⟨hP, hD⟩ := hPD rfl
      have hP : va_P D vwCl (lw_St cI cJ cK x0 xn xl xt xo xf xs xp xq xr xc l1 l2 l3 t1 o1 f1 f2 s1 s2 p1 q1 r1 r2 r3 r4 r5 w0 w1 w2 w3 w4 w5 w6 w7 c1 c2 m0 a_row a_tape a_number a_read a_readBits a_stands a_parted a_bitsWere a_stood a_chosen a_bestChosen a_often a_sorted a_risen a_risenWays o0 z nf lz lb lo ln tz tf oz of fz fn fs sz sn ss pz pa pn qw qb rz rv rw rk wf0 wf1 wf2 wf3 wf4 wf5 wf6 wf7 ro rt rb rd cl cg cw m_thrown_41 m_told m_taped m_at m_to m_many m_readMany m_fewest m_size mr mt mn md mb ms mp mw mo mc me mf mg mi mj ou) H := hP
      have hD : va_D A (lw_St cI cJ cK x0 xn xl xt xo xf xs xp xq xr xc l1 l2 l3 t1 o1 f1 f2 s1 s2 p1 q1 r1 r2 r3 r4 r5 w0 w1 w2 w3 w4 w5 w6 w7 c1 c2 m0 a_row a_tape a_number a_read a_readBits a_stands a_parted a_bitsWere a_stood a_chosen a_bestChosen a_often a_sorted a_risen a_risenWays o0 z nf lz lb lo ln tz tf oz of fz fn fs sz sn ss pz pa pn qw qb rz rv rw rk wf0 wf1 wf2 wf3 wf4 wf5 wf6 wf7 ro rt rb rd cl cg cw m_thrown_41 m_told m_taped m_at m_to m_many m_readMany m_fewest m_size mr mt mn md mb ms mp mw mo mc me mf mg mi mj ou) := hD
      refine lv_pop hx hb dL_law_1718 rfl ?_
      refine lv_goto (tgt := 1836) hx hb dL_law_1719 (by decide) ?_
      refine W.widen (k := ce + 6) (n := sl + 6) (show ce + 0 + 0 ≤ ce + 6 by omega) (show sl + 0 + 0 ≤ sl + 6 by omega) ?_
      exact kk z nf lz lb lo ln tz tf oz of fz fn fs sz sn ss pz pa pn qw qb rz rv rw rk wf0 wf1 wf2 wf3 wf4 wf5 wf6 wf7 ro rt rb rd cl cg cw m_thrown_41 m_told m_taped m_at m_to m_many m_readMany m_fewest m_size mr mt mn md mb ms mp mw mo mc me mf mg mi mj ou hz_z hR_nf hz_lz hR_lo hR_ln hz_tz hR_tf hz_oz hz_fz hz_sz hz_pz hz_pa hR_pn hz_qw hz_rz hz_rv hz_m_told hz_m_taped hz_m_at hz_m_to hz_m_many hz_m_readMany hz_m_size hR_mt hR_mn hR_md hR_mb hR_ms hR_mp hR_mo hR_mg hrel_t (by first | (exfalso; omega) | (rw [kcw, krw, show tz = tz + 4 from (by omega)]; exact sg_tie hrel_x hrel_t.symm) | exact hrel_x.le (by omega)) (by first | assumption | omega | (have h9 := (col_tie hrel_x nf mn).2.1; rw [← hrel_t] at krN; omega) | (have h9 := (pl_tie hrel_x).1; rw [← hrel_t] at krN; omega)) (by first | exact hrel_n | exact nm_put hrel_n kcF krF | exact nm_add hrel_n hrel_z kcF krF (by omega) | exact nm_col hrel_x hrel_t kcN krN kcF krF | exact nm_pl hrel_x hrel_t kcN krN kcF krF | exact nm_cut hrel_n hrel_z (by omega) (by omega) kcF krF | exact nm_swap hrel_n (by omega) (by omega) kcF krF | exact nm_rev hrel_n hrel_z (by omega) kcF krF) (by first | exact hrel_l | exact kcL.1) (by first | exact hrel_lz | exact kcL.2) (by first | assumption | omega) (by first | exact hrel_k | exact fun _ => kcK | exact fun h9 => absurd (by rw [kcS]; rfl) h9) _ _ ls hP hD hS (lv_sub hl [0, 1, 2, 3, 4] rfl)
    ·
      exfalso; omega
    ·
      exfalso; omega
  ·
    obtain ⟨hP, hD⟩ := hPD rfl
    have hP : va_P D vwCl (lw_St cI cJ cK x0 xn xl xt xo xf xs xp xq xr xc l1 l2 l3 t1 o1 f1 f2 s1 s2 p1 q1 r1 r2 r3 r4 r5 w0 w1 w2 w3 w4 w5 w6 w7 c1 c2 m0 a_row a_tape a_number a_read a_readBits a_stands a_parted a_bitsWere a_stood a_chosen a_bestChosen a_often a_sorted a_risen a_risenWays o0 z nf lz lb lo ln tz tf oz_8 of_9 fz_2 fn_3 fs_4 sz_5 sn_6 ss_7 pz pa pn qw qb rz rv rw rk wf0 wf1 wf2 wf3 wf4 wf5 wf6 wf7 ro rt rb rd cl cg cw m_thrown m_told m_taped m_at m_to m_many m_readMany m_fewest m_size mr mt mn md mb ms mp mw mo mc me mf mg mi mj ou) H := hP
    have hD : va_D A (lw_St cI cJ cK x0 xn xl xt xo xf xs xp xq xr xc l1 l2 l3 t1 o1 f1 f2 s1 s2 p1 q1 r1 r2 r3 r4 r5 w0 w1 w2 w3 w4 w5 w6 w7 c1 c2 m0 a_row a_tape a_number a_read a_readBits a_stands a_parted a_bitsWere a_stood a_chosen a_bestChosen a_often a_sorted a_risen a_risenWays o0 z nf lz lb lo ln tz tf oz_8 of_9 fz_2 fn_3 fs_4 sz_5 sn_6 ss_7 pz pa pn qw qb rz rv rw rk wf0 wf1 wf2 wf3 wf4 wf5 wf6 wf7 ro rt rb rd cl cg cw m_thrown m_told m_taped m_at m_to m_many m_readMany m_fewest m_size mr mt mn md mb ms mp mw mo mc me mf mg mi mj ou) := hD
    refine lv_pop hx hb dL_law_1683 rfl ?_
    refine lv_aload_n hx hb dL_law_1684 rfl (lv_at hl 2 rfl) ?_
    refine lv_aload_n hx hb dL_law_1685 rfl (lv_at hl 0 rfl) ?_
    refine lv_iload hx hb dL_law_1686 (lv_at hl 4 rfl) ?_
    refine lv_iconst (v := 1) hx hb dL_law_1688 (by decide +kernel) ?_
    refine lv_iadd hx hb dL_law_1689 ?_
    refine my_eqi (y := nI (i + 1)) (my_addN i 1) ?_
    refine va_sld hx hb hX hbl hbA hS (vp_in_nI (by omega) (by omega)) dL_law_1690 ?_
    refine my_eqi (y := sc (i + 1)) (congrArg sc (nI_clamp (by omega))) ?_
    refine lv_aload_n hx hb dL_law_1691 rfl (lv_at hl 0 rfl) ?_
    refine lv_iload hx hb dL_law_1692 (lv_at hl 4 rfl) ?_
    refine lv_iconst (v := 2) hx hb dL_law_1694 (by decide +kernel) ?_
    refine lv_iadd hx hb dL_law_1695 ?_
    refine my_eqi (y := nI (i + 2)) (my_addN i 2) ?_
    refine va_sld hx hb hX hbl hbA hS (vp_in_nI (by omega) (by omega)) dL_law_1696 ?_
    refine my_eqi (y := sc (i + 2)) (congrArg sc (nI_clamp (by omega))) ?_
    refine lv_aload_n hx hb dL_law_1697 rfl (lv_at hl 0 rfl) ?_
    refine lv_iload hx hb dL_law_1698 (lv_at hl 4 rfl) ?_
    refine lv_iconst (v := 3) hx hb dL_law_1700 (by decide +kernel) ?_
    refine lv_iadd hx hb dL_law_1701 ?_
    refine my_eqi (y := nI (i + 3)) (my_addN i 3) ?_
    refine va_sld hx hb hX hbl hbA hS (vp_in_nI (by omega) (by omega)) dL_law_1702 ?_
    refine my_eqi (y := sc (i + 3)) (congrArg sc (nI_clamp (by omega))) ?_
    refine lv_aload_n hx hb dL_law_1703 rfl (lv_at hl 0 rfl) ?_
    refine lv_iload hx hb dL_law_1704 (lv_at hl 4 rfl) ?_
    refine lv_iconst (v := 4) hx hb dL_law_1706 (by decide +kernel) ?_
    refine lv_iadd hx hb dL_law_1707 ?_
    refine my_eqi (y := nI (i + 4)) (my_addN i 4) ?_
    refine va_sld hx hb hX hbl hbA hS (vp_in_nI (by omega) (by omega)) dL_law_1708 ?_
    refine my_eqi (y := sc (i + 4)) (congrArg sc (nI_clamp (by omega))) ?_
    refine lv_aload_n hx hb dL_law_1709 rfl (lv_at hl 0 rfl) ?_
    refine lv_iload hx hb dL_law_1710 (lv_at hl 4 rfl) ?_
    refine lv_iconst (v := 5) hx hb dL_law_1712 (by decide +kernel) ?_
    refine lv_iadd hx hb dL_law_1713 ?_
    refine my_eqi (y := nI (i + 5)) (my_addN i 5) ?_
    refine va_sld hx hb hX hbl hbA hS (vp_in_nI (by omega) (by omega)) dL_law_1714 ?_
    refine my_eqi (y := sc (i + 5)) (congrArg sc (nI_clamp (by omega))) ?_
    refine my_goIS (wc := (wl_k_X9_both cI cJ cK m0 a_row a_tape a_number a_read a_readBits a_stands a_parted a_bitsWere a_stood a_chosen a_bestChosen a_often a_sorted a_risen a_risenWays m_thrown (nI m_told) (nI m_taped) (nI m_at) (nI m_to) (nI m_many) (nI m_readMany) m_fewest (nI m_size) mn mf mr)) hP hD hS hA [37, 40, 49, 38] rfl [none, none, none, none, none, none, none, none, none, none, none, none, none, none, none, none, none, none, none, none, none, none, none, none, none, none, none, none, none, none, none, none, none, none, none, none, none, some 0, some 3, none, some 1, none, none, none, none, none, none, none, none, some 2] (by decide +kernel) (my_cV (As := [.int (sc (i + 1)), .int (sc (i + 2)), .int (sc (i + 3)), .int (sc (i + 4)), .int (sc (i + 5))]) (rest := []) (ci := 9) (wc := (wl_k_X9_both cI cJ cK m0 a_row a_tape a_number a_read a_readBits a_stands a_parted a_bitsWere a_stood a_chosen a_bestChosen a_often a_sorted a_risen a_risenWays m_thrown (nI m_told) (nI m_taped) (nI m_at) (nI m_to) (nI m_many) (nI m_readMany) m_fewest (nI m_size) mn mf mr)) ⟨hx, hb, hml, hown, hts⟩ (cwV 5 hts gL_law_X9_both rfl rfl rfl (by decide +kernel) ⟨Nat.le_of_ble_eq_true rfl, Nat.le_of_ble_eq_true rfl⟩) hN hK hP hD [37, 40, 49, 38] rfl (by decide) rfl 37 rfl rfl rfl rfl hl.1 rfl (Nat.le_of_ble_eq_true rfl) dL_law_1715 ⟨lw_rc (a := ce + 0) (k := 0) (by omega), lw_rs (a := sl + 0) (k := 0) (by omega)⟩  ((k_X9_both l D cI cJ cK m0 a_row a_tape a_number a_read a_readBits a_stands a_parted a_bitsWere a_stood a_chosen a_bestChosen a_often a_sorted a_risen a_risenWays m_thrown m_told m_taped m_at m_to m_many m_readMany m_fewest m_size mn mf mr (sc (i + 1)) (sc (i + 2)) (sc (i + 3)) (sc (i + 4)) (sc (i + 5)) hz_m_told hz_m_taped hz_m_at hz_m_to hz_m_many hz_m_readMany hz_m_size hR_mn) _)) (fun r u H locs hp hPD hS => ?_)
    rcases hp with ⟨m_thrown_70, rfl, rfl, ho_71⟩ | ⟨m_thrown_72, m_told_73, mf_74, mr_75, rfl, rfl, hhz_m_told_76, hu1_77, hu2_78, hu3_79, hx1_80, hx2_81, hx3_82, hu4_83, krT⟩ | ⟨t_84, m_thrown_85, m_told_86, mf_87, mr_88, rfl, rfl, hhz_m_told_89, hu1_90, hu2_91, hu3_92, hx1_93, hx2_94, hx3_95, hu4_96, hu5_97, hu6_98, krR, krT⟩
    ·
      exfalso; omega
    ·
      obtain ⟨hP, hD⟩ := hPD rfl
      have hP : va_P D vwCl (lw_St cI cJ cK x0 xn xl xt xo xf xs xp xq xr xc l1 l2 l3 t1 o1 f1 f2 s1 s2 p1 q1 r1 r2 r3 r4 r5 w0 w1 w2 w3 w4 w5 w6 w7 c1 c2 m0 a_row a_tape a_number a_read a_readBits a_stands a_parted a_bitsWere a_stood a_chosen a_bestChosen a_often a_sorted a_risen a_risenWays o0 z nf lz lb lo ln tz tf oz_8 of_9 fz_2 fn_3 fs_4 sz_5 sn_6 ss_7 pz pa pn qw qb rz rv rw rk wf0 wf1 wf2 wf3 wf4 wf5 wf6 wf7 ro rt rb rd cl cg cw m_thrown_72 m_told_73 m_taped m_at m_to m_many m_readMany m_fewest m_size mr_75 mt mn md mb ms mp mw mo mc me mf_74 mg mi mj ou) H := hP
      have hD : va_D A (lw_St cI cJ cK x0 xn xl xt xo xf xs xp xq xr xc l1 l2 l3 t1 o1 f1 f2 s1 s2 p1 q1 r1 r2 r3 r4 r5 w0 w1 w2 w3 w4 w5 w6 w7 c1 c2 m0 a_row a_tape a_number a_read a_readBits a_stands a_parted a_bitsWere a_stood a_chosen a_bestChosen a_often a_sorted a_risen a_risenWays o0 z nf lz lb lo ln tz tf oz_8 of_9 fz_2 fn_3 fs_4 sz_5 sn_6 ss_7 pz pa pn qw qb rz rv rw rk wf0 wf1 wf2 wf3 wf4 wf5 wf6 wf7 ro rt rb rd cl cg cw m_thrown_72 m_told_73 m_taped m_at m_to m_many m_readMany m_fewest m_size mr_75 mt mn md mb ms mp mw mo mc me mf_74 mg mi mj ou) := hD
      refine lv_pop hx hb dL_law_1718 rfl ?_
      refine lv_goto (tgt := 1836) hx hb dL_law_1719 (by decide) ?_
      refine W.widen (k := ce + 6) (n := sl + 6) (show ce + 0 + 0 ≤ ce + 6 by omega) (show sl + 0 + 0 ≤ sl + 6 by omega) ?_
      exact kk z nf lz lb lo ln tz tf oz_8 of_9 fz_2 fn_3 fs_4 sz_5 sn_6 ss_7 pz pa pn qw qb rz rv rw rk wf0 wf1 wf2 wf3 wf4 wf5 wf6 wf7 ro rt rb rd cl cg cw m_thrown_72 m_told_73 m_taped m_at m_to m_many m_readMany m_fewest m_size mr_75 mt mn md mb ms mp mw mo mc me mf_74 mg mi mj ou hz_z hR_nf hz_lz hR_lo hR_ln hz_tz hR_tf (by first | assumption | omega | rfl) (by first | assumption | omega | rfl) (by first | assumption | omega | rfl) hz_pz hz_pa hR_pn hz_qw hz_rz hz_rv (by first | assumption | omega | rfl) hz_m_taped hz_m_at hz_m_to hz_m_many hz_m_readMany hz_m_size hR_mt hR_mn hR_md hR_mb hR_ms hR_mp hR_mo hR_mg hrel_t (by first | (exfalso; omega) | (rw [kcw, krw, show tz = tz + 4 from (by omega)]; exact sg_tie hrel_x hrel_t.symm) | exact hrel_x.le (by omega)) (by first | assumption | omega | (have h9 := (col_tie hrel_x nf mn).2.1; rw [← hrel_t] at krN; omega) | (have h9 := (pl_tie hrel_x).1; rw [← hrel_t] at krN; omega)) (by first | exact hrel_n | exact nm_put hrel_n kcF krF | exact nm_add hrel_n hrel_z kcF krF (by omega) | exact nm_col hrel_x hrel_t kcN krN kcF krF | exact nm_pl hrel_x hrel_t kcN krN kcF krF | exact nm_cut hrel_n hrel_z (by omega) (by omega) kcF krF | exact nm_swap hrel_n (by omega) (by omega) kcF krF | exact nm_rev hrel_n hrel_z (by omega) kcF krF) (by first | exact hrel_l | exact kcL.1) (by first | exact hrel_lz | exact kcL.2) (by first | assumption | omega) (by first | exact hrel_k | exact fun _ => kcK | exact fun h9 => absurd (by rw [kcS]; rfl) h9) _ _ ls hP hD hS (lv_sub hl [0, 1, 2, 3, 4] rfl)
    ·
      exfalso; omega
  ·
    obtain ⟨hP, hD⟩ := hPD rfl
    have hP : va_P D vwCl (lw_St cI cJ cK x0 xn xl xt xo xf xs xp xq xr xc l1 l2 l3 t1 o1 f1 f2 s1 s2 p1 q1 r1 r2 r3 r4 r5 w0 w1 w2 w3 w4 w5 w6 w7 c1 c2 m0 a_row a_tape a_number a_read a_readBits a_stands a_parted a_bitsWere a_stood a_chosen a_bestChosen a_often a_sorted a_risen a_risenWays o0 z nf lz lb lo ln tz tf oz_27 of_28 fz_21 fn_22 fs_23 sz_24 sn_25 ss_26 pz pa pn qw qb rz rv rw rk wf0 wf1 wf2 wf3 wf4 wf5 wf6 wf7 ro rt rb rd cl cg cw m_thrown m_told m_taped m_at m_to m_many m_readMany m_fewest m_size mr mt mn md mb ms mp mw mo mc me mf mg mi mj ou) H := hP
    have hD : va_D A (lw_St cI cJ cK x0 xn xl xt xo xf xs xp xq xr xc l1 l2 l3 t1 o1 f1 f2 s1 s2 p1 q1 r1 r2 r3 r4 r5 w0 w1 w2 w3 w4 w5 w6 w7 c1 c2 m0 a_row a_tape a_number a_read a_readBits a_stands a_parted a_bitsWere a_stood a_chosen a_bestChosen a_often a_sorted a_risen a_risenWays o0 z nf lz lb lo ln tz tf oz_27 of_28 fz_21 fn_22 fs_23 sz_24 sn_25 ss_26 pz pa pn qw qb rz rv rw rk wf0 wf1 wf2 wf3 wf4 wf5 wf6 wf7 ro rt rb rd cl cg cw m_thrown m_told m_taped m_at m_to m_many m_readMany m_fewest m_size mr mt mn md mb ms mp mw mo mc me mf mg mi mj ou) := hD
    refine lv_pop hx hb dL_law_1683 rfl ?_
    refine lv_aload_n hx hb dL_law_1684 rfl (lv_at hl 2 rfl) ?_
    refine lv_aload_n hx hb dL_law_1685 rfl (lv_at hl 0 rfl) ?_
    refine lv_iload hx hb dL_law_1686 (lv_at hl 4 rfl) ?_
    refine lv_iconst (v := 1) hx hb dL_law_1688 (by decide +kernel) ?_
    refine lv_iadd hx hb dL_law_1689 ?_
    refine my_eqi (y := nI (i + 1)) (my_addN i 1) ?_
    refine va_sld hx hb hX hbl hbA hS (vp_in_nI (by omega) (by omega)) dL_law_1690 ?_
    refine my_eqi (y := sc (i + 1)) (congrArg sc (nI_clamp (by omega))) ?_
    refine lv_aload_n hx hb dL_law_1691 rfl (lv_at hl 0 rfl) ?_
    refine lv_iload hx hb dL_law_1692 (lv_at hl 4 rfl) ?_
    refine lv_iconst (v := 2) hx hb dL_law_1694 (by decide +kernel) ?_
    refine lv_iadd hx hb dL_law_1695 ?_
    refine my_eqi (y := nI (i + 2)) (my_addN i 2) ?_
    refine va_sld hx hb hX hbl hbA hS (vp_in_nI (by omega) (by omega)) dL_law_1696 ?_
    refine my_eqi (y := sc (i + 2)) (congrArg sc (nI_clamp (by omega))) ?_
    refine lv_aload_n hx hb dL_law_1697 rfl (lv_at hl 0 rfl) ?_
    refine lv_iload hx hb dL_law_1698 (lv_at hl 4 rfl) ?_
    refine lv_iconst (v := 3) hx hb dL_law_1700 (by decide +kernel) ?_
    refine lv_iadd hx hb dL_law_1701 ?_
    refine my_eqi (y := nI (i + 3)) (my_addN i 3) ?_
    refine va_sld hx hb hX hbl hbA hS (vp_in_nI (by omega) (by omega)) dL_law_1702 ?_
    refine my_eqi (y := sc (i + 3)) (congrArg sc (nI_clamp (by omega))) ?_
    refine lv_aload_n hx hb dL_law_1703 rfl (lv_at hl 0 rfl) ?_
    refine lv_iload hx hb dL_law_1704 (lv_at hl 4 rfl) ?_
    refine lv_iconst (v := 4) hx hb dL_law_1706 (by decide +kernel) ?_
    refine lv_iadd hx hb dL_law_1707 ?_
    refine my_eqi (y := nI (i + 4)) (my_addN i 4) ?_
    refine va_sld hx hb hX hbl hbA hS (vp_in_nI (by omega) (by omega)) dL_law_1708 ?_
    refine my_eqi (y := sc (i + 4)) (congrArg sc (nI_clamp (by omega))) ?_
    refine lv_aload_n hx hb dL_law_1709 rfl (lv_at hl 0 rfl) ?_
    refine lv_iload hx hb dL_law_1710 (lv_at hl 4 rfl) ?_
    refine lv_iconst (v := 5) hx hb dL_law_1712 (by decide +kernel) ?_
    refine lv_iadd hx hb dL_law_1713 ?_
    refine my_eqi (y := nI (i + 5)) (my_addN i 5) ?_
    refine va_sld hx hb hX hbl hbA hS (vp_in_nI (by omega) (by omega)) dL_law_1714 ?_
    refine my_eqi (y := sc (i + 5)) (congrArg sc (nI_clamp (by omega))) ?_
    refine my_goIS (wc := (wl_k_X9_both cI cJ cK m0 a_row a_tape a_number a_read a_readBits a_stands a_parted a_bitsWere a_stood a_chosen a_bestChosen a_often a_sorted a_risen a_risenWays m_thrown (nI m_told) (nI m_taped) (nI m_at) (nI m_to) (nI m_many) (nI m_readMany) m_fewest (nI m_size) mn mf mr)) hP hD hS hA [37, 40, 49, 38] rfl [none, none, none, none, none, none, none, none, none, none, none, none, none, none, none, none, none, none, none, none, none, none, none, none, none, none, none, none, none, none, none, none, none, none, none, none, none, some 0, some 3, none, some 1, none, none, none, none, none, none, none, none, some 2] (by decide +kernel) (my_cV (As := [.int (sc (i + 1)), .int (sc (i + 2)), .int (sc (i + 3)), .int (sc (i + 4)), .int (sc (i + 5))]) (rest := []) (ci := 9) (wc := (wl_k_X9_both cI cJ cK m0 a_row a_tape a_number a_read a_readBits a_stands a_parted a_bitsWere a_stood a_chosen a_bestChosen a_often a_sorted a_risen a_risenWays m_thrown (nI m_told) (nI m_taped) (nI m_at) (nI m_to) (nI m_many) (nI m_readMany) m_fewest (nI m_size) mn mf mr)) ⟨hx, hb, hml, hown, hts⟩ (cwV 5 hts gL_law_X9_both rfl rfl rfl (by decide +kernel) ⟨Nat.le_of_ble_eq_true rfl, Nat.le_of_ble_eq_true rfl⟩) hN hK hP hD [37, 40, 49, 38] rfl (by decide) rfl 37 rfl rfl rfl rfl hl.1 rfl (Nat.le_of_ble_eq_true rfl) dL_law_1715 ⟨lw_rc (a := ce + 0) (k := 0) (by omega), lw_rs (a := sl + 0) (k := 0) (by omega)⟩  ((k_X9_both l D cI cJ cK m0 a_row a_tape a_number a_read a_readBits a_stands a_parted a_bitsWere a_stood a_chosen a_bestChosen a_often a_sorted a_risen a_risenWays m_thrown m_told m_taped m_at m_to m_many m_readMany m_fewest m_size mn mf mr (sc (i + 1)) (sc (i + 2)) (sc (i + 3)) (sc (i + 4)) (sc (i + 5)) hz_m_told hz_m_taped hz_m_at hz_m_to hz_m_many hz_m_readMany hz_m_size hR_mn) _)) (fun r u H locs hp hPD hS => ?_)
    rcases hp with ⟨m_thrown_99, rfl, rfl, ho_100⟩ | ⟨m_thrown_101, m_told_102, mf_103, mr_104, rfl, rfl, hhz_m_told_105, hu1_106, hu2_107, hu3_108, hx1_109, hx2_110, hx3_111, hu4_112, krT⟩ | ⟨t_113, m_thrown_114, m_told_115, mf_116, mr_117, rfl, rfl, hhz_m_told_118, hu1_119, hu2_120, hu3_121, hx1_122, hx2_123, hx3_124, hu4_125, hu5_126, hu6_127, krR, krT⟩
    ·
      exfalso; omega
    ·
      exfalso; omega
    ·
      obtain ⟨hP, hD⟩ := hPD rfl
      have hP : va_P D vwCl (lw_St cI cJ cK x0 xn xl xt xo xf xs xp xq xr xc l1 l2 l3 t1 o1 f1 f2 s1 s2 p1 q1 r1 r2 r3 r4 r5 w0 w1 w2 w3 w4 w5 w6 w7 c1 c2 m0 a_row a_tape a_number a_read a_readBits a_stands a_parted a_bitsWere a_stood a_chosen a_bestChosen a_often a_sorted a_risen a_risenWays o0 z nf lz lb lo ln tz tf oz_27 of_28 fz_21 fn_22 fs_23 sz_24 sn_25 ss_26 pz pa pn qw qb rz rv rw rk wf0 wf1 wf2 wf3 wf4 wf5 wf6 wf7 ro rt rb rd cl cg cw m_thrown_114 m_told_115 m_taped m_at m_to m_many m_readMany m_fewest m_size mr_117 mt mn md mb ms mp mw mo mc me mf_116 mg mi mj ou) H := hP
      have hD : va_D A (lw_St cI cJ cK x0 xn xl xt xo xf xs xp xq xr xc l1 l2 l3 t1 o1 f1 f2 s1 s2 p1 q1 r1 r2 r3 r4 r5 w0 w1 w2 w3 w4 w5 w6 w7 c1 c2 m0 a_row a_tape a_number a_read a_readBits a_stands a_parted a_bitsWere a_stood a_chosen a_bestChosen a_often a_sorted a_risen a_risenWays o0 z nf lz lb lo ln tz tf oz_27 of_28 fz_21 fn_22 fs_23 sz_24 sn_25 ss_26 pz pa pn qw qb rz rv rw rk wf0 wf1 wf2 wf3 wf4 wf5 wf6 wf7 ro rt rb rd cl cg cw m_thrown_114 m_told_115 m_taped m_at m_to m_many m_readMany m_fewest m_size mr_117 mt mn md mb ms mp mw mo mc me mf_116 mg mi mj ou) := hD
      refine lv_pop hx hb dL_law_1718 rfl ?_
      refine lv_goto (tgt := 1836) hx hb dL_law_1719 (by decide) ?_
      refine W.widen (k := ce + 6) (n := sl + 6) (show ce + 0 + 0 ≤ ce + 6 by omega) (show sl + 0 + 0 ≤ sl + 6 by omega) ?_
      exact kk z nf lz lb lo ln tz tf oz_27 of_28 fz_21 fn_22 fs_23 sz_24 sn_25 ss_26 pz pa pn qw qb rz rv rw rk wf0 wf1 wf2 wf3 wf4 wf5 wf6 wf7 ro rt rb rd cl cg cw m_thrown_114 m_told_115 m_taped m_at m_to m_many m_readMany m_fewest m_size mr_117 mt mn md mb ms mp mw mo mc me mf_116 mg mi mj ou hz_z hR_nf hz_lz hR_lo hR_ln hz_tz hR_tf (by first | assumption | omega | rfl) (by first | assumption | omega | rfl) (by first | assumption | omega | rfl) hz_pz hz_pa hR_pn hz_qw hz_rz hz_rv (by first | assumption | omega | rfl) hz_m_taped hz_m_at hz_m_to hz_m_many hz_m_readMany hz_m_size hR_mt hR_mn hR_md hR_mb hR_ms hR_mp hR_mo hR_mg hrel_t (by first | (exfalso; omega) | (rw [kcw, krw, show tz = tz + 4 from (by omega)]; exact sg_tie hrel_x hrel_t.symm) | exact hrel_x.le (by omega)) (by first | assumption | omega | (have h9 := (col_tie hrel_x nf mn).2.1; rw [← hrel_t] at krN; omega) | (have h9 := (pl_tie hrel_x).1; rw [← hrel_t] at krN; omega)) (by first | exact hrel_n | exact nm_put hrel_n kcF krF | exact nm_add hrel_n hrel_z kcF krF (by omega) | exact nm_col hrel_x hrel_t kcN krN kcF krF | exact nm_pl hrel_x hrel_t kcN krN kcF krF | exact nm_cut hrel_n hrel_z (by omega) (by omega) kcF krF | exact nm_swap hrel_n (by omega) (by omega) kcF krF | exact nm_rev hrel_n hrel_z (by omega) kcF krF) (by first | exact hrel_l | exact kcL.1) (by first | exact hrel_lz | exact kcL.2) (by first | assumption | omega) (by first | exact hrel_k | exact fun _ => kcK | exact fun h9 => absurd (by rw [kcS]; rfl) h9) _ _ ls hP hD hS (lv_sub hl [0, 1, 2, 3, 4] rfl)
set_option maxHeartbeats 8000000 in
set_option maxRecDepth 100000 in
theorem law_case_38 {p : Program} {l : Launch} {e : Env} {s : State} {m : MethodId} {below : List Frame} {meth : Method} {c : Code} {D : va_G} {cI cJ cK : ClassId} {b L i : Nat} {sc : Nat → Int32} (C0 : lw_At p s m meth c b L sc) (hK : va_K D vwCl (tyIJ cI cJ cK) s) (hN : nw s) {A : Nat → Prop} (hAe : A = fun q : Nat => s.heap.size ≤ q) (hL : L ≤ 3072) (hi : i + 6 ≤ L) {ce sl : Nat} (hce : ce + 6 ≤ 601022) (hsl : sl + 6 ≤ 7293032) (x0 : Nat) (xn : Nat) (xl : Nat) (xt : Nat) (xo : Nat) (xf : Nat) (xs : Nat) (xp : Nat) (xq : Nat) (xr : Nat) (xc : Nat) (l1 : Nat) (l2 : Nat) (l3 : Nat) (t1 : Nat) (o1 : Nat) (f1 : Nat) (f2 : Nat) (s1 : Nat) (s2 : Nat) (p1 : Nat) (q1 : Nat) (r1 : Nat) (r2 : Nat) (r3 : Nat) (r4 : Nat) (r5 : Nat) (w0 : Nat) (w1 : Nat) (w2 : Nat) (w3 : Nat) (w4 : Nat) (w5 : Nat) (w6 : Nat) (w7 : Nat) (c1 : Nat) (c2 : Nat) (m0 : Nat) (a_row : Nat) (a_tape : Nat) (a_number : Nat) (a_read : Nat) (a_readBits : Nat) (a_stands : Nat) (a_parted : Nat) (a_bitsWere : Nat) (a_stood : Nat) (a_chosen : Nat) (a_bestChosen : Nat) (a_often : Nat) (a_sorted : Nat) (a_risen : Nat) (a_risenWays : Nat) (o0 : Nat) (z : Nat) (nf : Nat → Int32) (lz : Nat) (lb : Nat → Int64) (lo : Nat → Int32) (ln : Nat → Int32) (tz : Nat) (tf : Nat → Int32) (oz : Nat) (of : Nat → Int64) (fz : Nat) (fn : Nat → Int32) (fs : Nat → Int32) (sz : Nat) (sn : Nat → Int32) (ss : Nat → Int32) (pz : Nat) (pa : Nat) (pn : Nat → Int32) (qw : Nat) (qb : Nat → Int64) (rz : Nat) (rv : Nat) (rw : Int32) (rk : Int32) (wf0 : Nat → Int64) (wf1 : Nat → Int64) (wf2 : Nat → Int64) (wf3 : Nat → Int64) (wf4 : Nat → Int64) (wf5 : Nat → Int64) (wf6 : Nat → Int64) (wf7 : Nat → Int64) (ro : Nat → Int64) (rt : Nat → Int32) (rb : Nat → Int32) (rd : Nat → Int32) (cl : Int32) (cg : Nat → Int32) (cw : Nat → Int64) (m_thrown : Int32) (m_told : Nat) (m_taped : Nat) (m_at : Nat) (m_to : Nat) (m_many : Nat) (m_readMany : Nat) (m_fewest : Int32) (m_size : Nat) (mr : Nat → Int64) (mt : Nat → Int32) (mn : Nat → Int32) (md : Nat → Int32) (mb : Nat → Int32) (ms : Nat → Int32) (mp : Nat → Int32) (mw : Nat → Int32) (mo : Nat → Int32) (mc : Nat → Int32) (me : Nat → Int32) (mf : Nat → Int32) (mg : Nat → Int32) (mi : Nat → Int32) (mj : Nat → Int64) (ou : Nat → Int64) (hz_z : z ≤ 64) (hR_nf : RB 0 255 nf) (hz_lz : lz ≤ 64) (hR_lo : RB 0 63 lo) (hR_ln : RB 0 63 ln) (hz_tz : tz ≤ 100) (hR_tf : RB 0 255 tf) (hz_oz : oz ≤ 64) (hz_fz : fz ≤ 64) (hz_sz : sz ≤ 64) (hz_pz : pz ≤ 64) (hz_pa : pa ≤ 100) (hR_pn : RB 0 255 pn) (hz_qw : qw ≤ 11) (hz_rz : rz ≤ 64) (hz_rv : rv ≤ 8) (hz_m_told : m_told ≤ 64) (hz_m_taped : m_taped ≤ 100) (hz_m_at : m_at ≤ 100) (hz_m_to : m_to ≤ 100) (hz_m_many : m_many ≤ 64) (hz_m_readMany : m_readMany ≤ 64) (hz_m_size : m_size ≤ 64) (hR_mt : RB 0 255 mt) (hR_mn : RB 0 255 mn) (hR_md : RB 0 255 md) (hR_mb : RB 0 1 mb) (hR_ms : RB 0 63 ms) (hR_mp : RB 0 63 mp) (hR_mo : RB 0 63 mo) (hR_mg : RB 0 255 mg) (hrel_t : tz = m_taped) (hrel_x : txEq tz tf mt) (hrel_z : z = m_many) (hrel_n : ∀ j, j < z → nf j = mn j) (hrel_l : LVL lb nf z) (hrel_lz : lz = z) (hrel_o : oz = m_told) (hrel_k : rk.toInt ≠ 0 → rw = nI (thF nf z)) (H : Heap) (locs : List Loc) (ls : Array Slot) (hP : va_P D vwCl (lw_St cI cJ cK x0 xn xl xt xo xf xs xp xq xr xc l1 l2 l3 t1 o1 f1 f2 s1 s2 p1 q1 r1 r2 r3 r4 r5 w0 w1 w2 w3 w4 w5 w6 w7 c1 c2 m0 a_row a_tape a_number a_read a_readBits a_stands a_parted a_bitsWere a_stood a_chosen a_bestChosen a_often a_sorted a_risen a_risenWays o0 z nf lz lb lo ln tz tf oz of fz fn fs sz sn ss pz pa pn qw qb rz rv rw rk wf0 wf1 wf2 wf3 wf4 wf5 wf6 wf7 ro rt rb rd cl cg cw m_thrown m_told m_taped m_at m_to m_many m_readMany m_fewest m_size mr mt mn md mb ms mp mw mo mc me mf mg mi mj ou) H) (hD : va_D A (lw_St cI cJ cK x0 xn xl xt xo xf xs xp xq xr xc l1 l2 l3 t1 o1 f1 f2 s1 s2 p1 q1 r1 r2 r3 r4 r5 w0 w1 w2 w3 w4 w5 w6 w7 c1 c2 m0 a_row a_tape a_number a_read a_readBits a_stands a_parted a_bitsWere a_stood a_chosen a_bestChosen a_often a_sorted a_risen a_risenWays o0 z nf lz lb lo ln tz tf oz of fz fn fs sz sn ss pz pa pn qw qb rz rv rw rk wf0 wf1 wf2 wf3 wf4 wf5 wf6 wf7 ro rt rb rd cl cg cw m_thrown m_told m_taped m_at m_to m_many m_readMany m_fewest m_size mr mt mn md mb ms mp mw mo mc me mf mg mi mj ou)) (hS : va_S A s.heap H locs) (hl : lv_has ls 8 [(0, .ref b), (1, .ref x0), (2, .ref m0), (3, .ref o0), (4, .int (nI i))]) (kk : ∀ (z : Nat) (nf : Nat → Int32) (lz : Nat) (lb : Nat → Int64) (lo : Nat → Int32) (ln : Nat → Int32) (tz : Nat) (tf : Nat → Int32) (oz : Nat) (of : Nat → Int64) (fz : Nat) (fn : Nat → Int32) (fs : Nat → Int32) (sz : Nat) (sn : Nat → Int32) (ss : Nat → Int32) (pz : Nat) (pa : Nat) (pn : Nat → Int32) (qw : Nat) (qb : Nat → Int64) (rz : Nat) (rv : Nat) (rw : Int32) (rk : Int32) (wf0 : Nat → Int64) (wf1 : Nat → Int64) (wf2 : Nat → Int64) (wf3 : Nat → Int64) (wf4 : Nat → Int64) (wf5 : Nat → Int64) (wf6 : Nat → Int64) (wf7 : Nat → Int64) (ro : Nat → Int64) (rt : Nat → Int32) (rb : Nat → Int32) (rd : Nat → Int32) (cl : Int32) (cg : Nat → Int32) (cw : Nat → Int64) (m_thrown : Int32) (m_told : Nat) (m_taped : Nat) (m_at : Nat) (m_to : Nat) (m_many : Nat) (m_readMany : Nat) (m_fewest : Int32) (m_size : Nat) (mr : Nat → Int64) (mt : Nat → Int32) (mn : Nat → Int32) (md : Nat → Int32) (mb : Nat → Int32) (ms : Nat → Int32) (mp : Nat → Int32) (mw : Nat → Int32) (mo : Nat → Int32) (mc : Nat → Int32) (me : Nat → Int32) (mf : Nat → Int32) (mg : Nat → Int32) (mi : Nat → Int32) (mj : Nat → Int64) (ou : Nat → Int64), (z ≤ 64) → (RB 0 255 nf) → (lz ≤ 64) → (RB 0 63 lo) → (RB 0 63 ln) → (tz ≤ 100) → (RB 0 255 tf) → (oz ≤ 64) → (fz ≤ 64) → (sz ≤ 64) → (pz ≤ 64) → (pa ≤ 100) → (RB 0 255 pn) → (qw ≤ 11) → (rz ≤ 64) → (rv ≤ 8) → (m_told ≤ 64) → (m_taped ≤ 100) → (m_at ≤ 100) → (m_to ≤ 100) → (m_many ≤ 64) → (m_readMany ≤ 64) → (m_size ≤ 64) → (RB 0 255 mt) → (RB 0 255 mn) → (RB 0 255 md) → (RB 0 1 mb) → (RB 0 63 ms) → (RB 0 63 mp) → (RB 0 63 mo) → (RB 0 255 mg) → (tz = m_taped) → (txEq tz tf mt) → (z = m_many) → (∀ j, j < z → nf j = mn j) → (LVL lb nf z) → (lz = z) → (oz = m_told) → (rk.toInt ≠ 0 → rw = nI (thF nf z)) → ∀ (H : Heap) (locs : List Loc) (ls : Array Slot), va_P D vwCl (lw_St cI cJ cK x0 xn xl xt xo xf xs xp xq xr xc l1 l2 l3 t1 o1 f1 f2 s1 s2 p1 q1 r1 r2 r3 r4 r5 w0 w1 w2 w3 w4 w5 w6 w7 c1 c2 m0 a_row a_tape a_number a_read a_readBits a_stands a_parted a_bitsWere a_stood a_chosen a_bestChosen a_often a_sorted a_risen a_risenWays o0 z nf lz lb lo ln tz tf oz of fz fn fs sz sn ss pz pa pn qw qb rz rv rw rk wf0 wf1 wf2 wf3 wf4 wf5 wf6 wf7 ro rt rb rd cl cg cw m_thrown m_told m_taped m_at m_to m_many m_readMany m_fewest m_size mr mt mn md mb ms mp mw mo mc me mf mg mi mj ou) H → va_D A (lw_St cI cJ cK x0 xn xl xt xo xf xs xp xq xr xc l1 l2 l3 t1 o1 f1 f2 s1 s2 p1 q1 r1 r2 r3 r4 r5 w0 w1 w2 w3 w4 w5 w6 w7 c1 c2 m0 a_row a_tape a_number a_read a_readBits a_stands a_parted a_bitsWere a_stood a_chosen a_bestChosen a_often a_sorted a_risen a_risenWays o0 z nf lz lb lo ln tz tf oz of fz fn fs sz sn ss pz pa pn qw qb rz rv rw rk wf0 wf1 wf2 wf3 wf4 wf5 wf6 wf7 ro rt rb rd cl cg cw m_thrown m_told m_taped m_at m_to m_many m_readMany m_fewest m_size mr mt mn md mb ms mp mw mo mc me mf mg mi mj ou) → va_S A s.heap H locs → lv_has ls 8 [(0, .ref b), (1, .ref x0), (2, .ref m0), (3, .ref o0), (4, .int (nI i))] → W p l e room_1 s m #[Value.ref b] below meth c H locs (ce + 6) (sl + 6) (lw_Z below #[Value.ref b] s) (F0 m 1836 ls [])) : W p l e room_1 s m #[Value.ref b] below meth c H locs ce sl (lw_Z below #[Value.ref b] s) (F0 m 1722 ls []) := by
  obtain ⟨hx, hb, hr, hml, hown, hts, hX, hbl, hlocks, hgv⟩ := id C0
  have hts := fun w h => hts w (wsL_law_in w h)
  have hown : s.vm.findClass RL = some m.cls := hown
  have hb : c.code = cL_law := hb
  have hA : ∀ q : Nat, s.heap.size ≤ q → A q := fun q h => by rw [hAe]; exact h
  have hbA : ¬ A b := by rw [hAe]; exact Nat.not_le.mpr hbl
  refine lv_aload_n hx hb dL_law_1722 rfl (lv_at hl 1 rfl) ?_
  refine lv_aload_n hx hb dL_law_1723 rfl (lv_at hl 0 rfl) ?_
  refine lv_iload hx hb dL_law_1724 (lv_at hl 4 rfl) ?_
  refine lv_iconst (v := 1) hx hb dL_law_1726 (by decide +kernel) ?_
  refine lv_iadd hx hb dL_law_1727 ?_
  refine my_eqi (y := nI (i + 1)) (my_addN i 1) ?_
  refine va_sld hx hb hX hbl hbA hS (vp_in_nI (by omega) (by omega)) dL_law_1728 ?_
  refine my_eqi (y := sc (i + 1)) (congrArg sc (nI_clamp (by omega))) ?_
  refine lv_aload_n hx hb dL_law_1729 rfl (lv_at hl 0 rfl) ?_
  refine lv_iload hx hb dL_law_1730 (lv_at hl 4 rfl) ?_
  refine lv_iconst (v := 2) hx hb dL_law_1732 (by decide +kernel) ?_
  refine lv_iadd hx hb dL_law_1733 ?_
  refine my_eqi (y := nI (i + 2)) (my_addN i 2) ?_
  refine va_sld hx hb hX hbl hbA hS (vp_in_nI (by omega) (by omega)) dL_law_1734 ?_
  refine my_eqi (y := sc (i + 2)) (congrArg sc (nI_clamp (by omega))) ?_
  refine lv_aload_n hx hb dL_law_1735 rfl (lv_at hl 0 rfl) ?_
  refine lv_iload hx hb dL_law_1736 (lv_at hl 4 rfl) ?_
  refine lv_iconst (v := 3) hx hb dL_law_1738 (by decide +kernel) ?_
  refine lv_iadd hx hb dL_law_1739 ?_
  refine my_eqi (y := nI (i + 3)) (my_addN i 3) ?_
  refine va_sld hx hb hX hbl hbA hS (vp_in_nI (by omega) (by omega)) dL_law_1740 ?_
  refine my_eqi (y := sc (i + 3)) (congrArg sc (nI_clamp (by omega))) ?_
  refine lv_aload_n hx hb dL_law_1741 rfl (lv_at hl 0 rfl) ?_
  refine lv_iload hx hb dL_law_1742 (lv_at hl 4 rfl) ?_
  refine lv_iconst (v := 4) hx hb dL_law_1744 (by decide +kernel) ?_
  refine lv_iadd hx hb dL_law_1745 ?_
  refine my_eqi (y := nI (i + 4)) (my_addN i 4) ?_
  refine va_sld hx hb hX hbl hbA hS (vp_in_nI (by omega) (by omega)) dL_law_1746 ?_
  refine my_eqi (y := sc (i + 4)) (congrArg sc (nI_clamp (by omega))) ?_
  refine my_goIS (wc := (wl_k_X8_same cI cJ cK x0 xn xl xt xo xf xs xp xq xr xc f1 f2 s1 s2 o1 (nI z) nf (nI fz) fn fs (nI sz) sn ss (nI oz) of)) hP hD hS hA [0, 1, 10, 11, 12, 13, 14, 15, 8, 9] rfl [some 0, some 1, none, none, none, none, none, none, some 8, some 9, some 2, some 3, some 4, some 5, some 6, some 7] (by decide +kernel) (my_cV (As := [.int (sc (i + 1)), .int (sc (i + 2)), .int (sc (i + 3)), .int (sc (i + 4))]) (rest := []) (ci := 8) (wc := (wl_k_X8_same cI cJ cK x0 xn xl xt xo xf xs xp xq xr xc f1 f2 s1 s2 o1 (nI z) nf (nI fz) fn fs (nI sz) sn ss (nI oz) of)) ⟨hx, hb, hml, hown, hts⟩ (cwV 4 hts gL_law_X8_same rfl rfl rfl (by decide +kernel) ⟨Nat.le_of_ble_eq_true rfl, Nat.le_of_ble_eq_true rfl⟩) hN hK hP hD [0, 1, 10, 11, 12, 13, 14, 15, 8, 9] rfl (by decide) rfl 0 rfl rfl rfl rfl hl.1 rfl (Nat.le_of_ble_eq_true rfl) dL_law_1747 ⟨lw_rc (a := ce) (k := 0) (by omega), lw_rs (a := sl) (k := 0) (by omega)⟩  ((k_X8_same l D cI cJ cK x0 xn xl xt xo xf xs xp xq xr xc f1 f2 s1 s2 o1 z nf fz fn fs sz sn ss oz of (sc (i + 1)) (sc (i + 2)) (sc (i + 3)) (sc (i + 4)) hz_z hR_nf hz_fz hz_sz hz_oz) _)) (fun r u H locs hp hPD hS => ?_)
  rcases hp with ⟨rfl, rfl, ho_1⟩ | ⟨fz_2, fn_3, fs_4, sz_5, sn_6, ss_7, oz_8, of_9, rfl, rfl, hhz_fz_10, hhz_sz_11, hhz_oz_12, hu1_13, hu2_14, hu3_15, hx1_16, hx2_17, hx3_18, kcA, kcT⟩ | ⟨fz_19, fn_20, fs_21, sz_22, sn_23, ss_24, oz_25, of_26, rfl, rfl, hhz_fz_27, hhz_sz_28, hhz_oz_29, hu1_30, hu2_31, hu3_32, hx1_33, hx2_34, hx3_35, kcE, kcT⟩
  ·
    obtain ⟨hP, hD⟩ := hPD rfl
    have hP : va_P D vwCl (lw_St cI cJ cK x0 xn xl xt xo xf xs xp xq xr xc l1 l2 l3 t1 o1 f1 f2 s1 s2 p1 q1 r1 r2 r3 r4 r5 w0 w1 w2 w3 w4 w5 w6 w7 c1 c2 m0 a_row a_tape a_number a_read a_readBits a_stands a_parted a_bitsWere a_stood a_chosen a_bestChosen a_often a_sorted a_risen a_risenWays o0 z nf lz lb lo ln tz tf oz of fz fn fs sz sn ss pz pa pn qw qb rz rv rw rk wf0 wf1 wf2 wf3 wf4 wf5 wf6 wf7 ro rt rb rd cl cg cw m_thrown m_told m_taped m_at m_to m_many m_readMany m_fewest m_size mr mt mn md mb ms mp mw mo mc me mf mg mi mj ou) H := hP
    have hD : va_D A (lw_St cI cJ cK x0 xn xl xt xo xf xs xp xq xr xc l1 l2 l3 t1 o1 f1 f2 s1 s2 p1 q1 r1 r2 r3 r4 r5 w0 w1 w2 w3 w4 w5 w6 w7 c1 c2 m0 a_row a_tape a_number a_read a_readBits a_stands a_parted a_bitsWere a_stood a_chosen a_bestChosen a_often a_sorted a_risen a_risenWays o0 z nf lz lb lo ln tz tf oz of fz fn fs sz sn ss pz pa pn qw qb rz rv rw rk wf0 wf1 wf2 wf3 wf4 wf5 wf6 wf7 ro rt rb rd cl cg cw m_thrown m_told m_taped m_at m_to m_many m_readMany m_fewest m_size mr mt mn md mb ms mp mw mo mc me mf mg mi mj ou) := hD
    refine lv_pop hx hb dL_law_1750 rfl ?_
    refine lv_aload_n hx hb dL_law_1751 rfl (lv_at hl 2 rfl) ?_
    refine lv_aload_n hx hb dL_law_1752 rfl (lv_at hl 0 rfl) ?_
    refine lv_iload hx hb dL_law_1753 (lv_at hl 4 rfl) ?_
    refine lv_iconst (v := 1) hx hb dL_law_1755 (by decide +kernel) ?_
    refine lv_iadd hx hb dL_law_1756 ?_
    refine my_eqi (y := nI (i + 1)) (my_addN i 1) ?_
    refine va_sld hx hb hX hbl hbA hS (vp_in_nI (by omega) (by omega)) dL_law_1757 ?_
    refine my_eqi (y := sc (i + 1)) (congrArg sc (nI_clamp (by omega))) ?_
    refine lv_aload_n hx hb dL_law_1758 rfl (lv_at hl 0 rfl) ?_
    refine lv_iload hx hb dL_law_1759 (lv_at hl 4 rfl) ?_
    refine lv_iconst (v := 2) hx hb dL_law_1761 (by decide +kernel) ?_
    refine lv_iadd hx hb dL_law_1762 ?_
    refine my_eqi (y := nI (i + 2)) (my_addN i 2) ?_
    refine va_sld hx hb hX hbl hbA hS (vp_in_nI (by omega) (by omega)) dL_law_1763 ?_
    refine my_eqi (y := sc (i + 2)) (congrArg sc (nI_clamp (by omega))) ?_
    refine lv_aload_n hx hb dL_law_1764 rfl (lv_at hl 0 rfl) ?_
    refine lv_iload hx hb dL_law_1765 (lv_at hl 4 rfl) ?_
    refine lv_iconst (v := 3) hx hb dL_law_1767 (by decide +kernel) ?_
    refine lv_iadd hx hb dL_law_1768 ?_
    refine my_eqi (y := nI (i + 3)) (my_addN i 3) ?_
    refine va_sld hx hb hX hbl hbA hS (vp_in_nI (by omega) (by omega)) dL_law_1769 ?_
    refine my_eqi (y := sc (i + 3)) (congrArg sc (nI_clamp (by omega))) ?_
    refine lv_aload_n hx hb dL_law_1770 rfl (lv_at hl 0 rfl) ?_
    refine lv_iload hx hb dL_law_1771 (lv_at hl 4 rfl) ?_
    refine lv_iconst (v := 4) hx hb dL_law_1773 (by decide +kernel) ?_
    refine lv_iadd hx hb dL_law_1774 ?_
    refine my_eqi (y := nI (i + 4)) (my_addN i 4) ?_
    refine va_sld hx hb hX hbl hbA hS (vp_in_nI (by omega) (by omega)) dL_law_1775 ?_
    refine my_eqi (y := sc (i + 4)) (congrArg sc (nI_clamp (by omega))) ?_
    refine my_goIS (wc := (wl_k_X9_same cI cJ cK m0 a_row a_tape a_number a_read a_readBits a_stands a_parted a_bitsWere a_stood a_chosen a_bestChosen a_often a_sorted a_risen a_risenWays m_thrown (nI m_told) (nI m_taped) (nI m_at) (nI m_to) (nI m_many) (nI m_readMany) m_fewest (nI m_size) mn mf mr)) hP hD hS hA [37, 40, 49, 38] rfl [none, none, none, none, none, none, none, none, none, none, none, none, none, none, none, none, none, none, none, none, none, none, none, none, none, none, none, none, none, none, none, none, none, none, none, none, none, some 0, some 3, none, some 1, none, none, none, none, none, none, none, none, some 2] (by decide +kernel) (my_cV (As := [.int (sc (i + 1)), .int (sc (i + 2)), .int (sc (i + 3)), .int (sc (i + 4))]) (rest := []) (ci := 9) (wc := (wl_k_X9_same cI cJ cK m0 a_row a_tape a_number a_read a_readBits a_stands a_parted a_bitsWere a_stood a_chosen a_bestChosen a_often a_sorted a_risen a_risenWays m_thrown (nI m_told) (nI m_taped) (nI m_at) (nI m_to) (nI m_many) (nI m_readMany) m_fewest (nI m_size) mn mf mr)) ⟨hx, hb, hml, hown, hts⟩ (cwV 4 hts gL_law_X9_same rfl rfl rfl (by decide +kernel) ⟨Nat.le_of_ble_eq_true rfl, Nat.le_of_ble_eq_true rfl⟩) hN hK hP hD [37, 40, 49, 38] rfl (by decide) rfl 37 rfl rfl rfl rfl hl.1 rfl (Nat.le_of_ble_eq_true rfl) dL_law_1776 ⟨lw_rc (a := ce + 0) (k := 0) (by omega), lw_rs (a := sl + 0) (k := 0) (by omega)⟩  ((k_X9_same l D cI cJ cK m0 a_row a_tape a_number a_read a_readBits a_stands a_parted a_bitsWere a_stood a_chosen a_bestChosen a_often a_sorted a_risen a_risenWays m_thrown m_told m_taped m_at m_to m_many m_readMany m_fewest m_size mn mf mr (sc (i + 1)) (sc (i + 2)) (sc (i + 3)) (sc (i + 4)) hz_m_told hz_m_taped hz_m_at hz_m_to hz_m_many hz_m_readMany hz_m_size hR_mn) _)) (fun r u H locs hp hPD hS => ?_)
    rcases hp with ⟨m_thrown_36, rfl, rfl, ho_37⟩ | ⟨m_thrown_38, m_told_39, mf_40, mr_41, rfl, rfl, hhz_m_told_42, hu1_43, hu2_44, hu3_45, hx1_46, hx2_47, hx3_48, krA, krT⟩ | ⟨m_thrown_49, m_told_50, mf_51, mr_52, rfl, rfl, hhz_m_told_53, hu1_54, hu2_55, hu3_56, hx1_57, hx2_58, hx3_59, krE, krT⟩
    ·
      obtain ⟨hP, hD⟩ := hPD rfl
      have hP : va_P D vwCl (lw_St cI cJ cK x0 xn xl xt xo xf xs xp xq xr xc l1 l2 l3 t1 o1 f1 f2 s1 s2 p1 q1 r1 r2 r3 r4 r5 w0 w1 w2 w3 w4 w5 w6 w7 c1 c2 m0 a_row a_tape a_number a_read a_readBits a_stands a_parted a_bitsWere a_stood a_chosen a_bestChosen a_often a_sorted a_risen a_risenWays o0 z nf lz lb lo ln tz tf oz of fz fn fs sz sn ss pz pa pn qw qb rz rv rw rk wf0 wf1 wf2 wf3 wf4 wf5 wf6 wf7 ro rt rb rd cl cg cw m_thrown_36 m_told m_taped m_at m_to m_many m_readMany m_fewest m_size mr mt mn md mb ms mp mw mo mc me mf mg mi mj ou) H := hP
      have hD : va_D A (lw_St cI cJ cK x0 xn xl xt xo xf xs xp xq xr xc l1 l2 l3 t1 o1 f1 f2 s1 s2 p1 q1 r1 r2 r3 r4 r5 w0 w1 w2 w3 w4 w5 w6 w7 c1 c2 m0 a_row a_tape a_number a_read a_readBits a_stands a_parted a_bitsWere a_stood a_chosen a_bestChosen a_often a_sorted a_risen a_risenWays o0 z nf lz lb lo ln tz tf oz of fz fn fs sz sn ss pz pa pn qw qb rz rv rw rk wf0 wf1 wf2 wf3 wf4 wf5 wf6 wf7 ro rt rb rd cl cg cw m_thrown_36 m_told m_taped m_at m_to m_many m_readMany m_fewest m_size mr mt mn md mb ms mp mw mo mc me mf mg mi mj ou) := hD
      refine lv_pop hx hb dL_law_1779 rfl ?_
      refine lv_goto (tgt := 1836) hx hb dL_law_1780 (by decide) ?_
      refine W.widen (k := ce + 6) (n := sl + 6) (show ce + 0 + 0 ≤ ce + 6 by omega) (show sl + 0 + 0 ≤ sl + 6 by omega) ?_
      exact kk z nf lz lb lo ln tz tf oz of fz fn fs sz sn ss pz pa pn qw qb rz rv rw rk wf0 wf1 wf2 wf3 wf4 wf5 wf6 wf7 ro rt rb rd cl cg cw m_thrown_36 m_told m_taped m_at m_to m_many m_readMany m_fewest m_size mr mt mn md mb ms mp mw mo mc me mf mg mi mj ou hz_z hR_nf hz_lz hR_lo hR_ln hz_tz hR_tf hz_oz hz_fz hz_sz hz_pz hz_pa hR_pn hz_qw hz_rz hz_rv hz_m_told hz_m_taped hz_m_at hz_m_to hz_m_many hz_m_readMany hz_m_size hR_mt hR_mn hR_md hR_mb hR_ms hR_mp hR_mo hR_mg hrel_t (by first | (exfalso; omega) | (rw [kcw, krw, show tz = tz + 4 from (by omega)]; exact sg_tie hrel_x hrel_t.symm) | exact hrel_x.le (by omega)) (by first | assumption | omega | (have h9 := (col_tie hrel_x nf mn).2.1; rw [← hrel_t] at krN; omega) | (have h9 := (pl_tie hrel_x).1; rw [← hrel_t] at krN; omega)) (by first | exact hrel_n | exact nm_put hrel_n kcF krF | exact nm_add hrel_n hrel_z kcF krF (by omega) | exact nm_col hrel_x hrel_t kcN krN kcF krF | exact nm_pl hrel_x hrel_t kcN krN kcF krF | exact nm_cut hrel_n hrel_z (by omega) (by omega) kcF krF | exact nm_swap hrel_n (by omega) (by omega) kcF krF | exact nm_rev hrel_n hrel_z (by omega) kcF krF) (by first | exact hrel_l | exact kcL.1) (by first | exact hrel_lz | exact kcL.2) (by first | assumption | omega) (by first | exact hrel_k | exact fun _ => kcK | exact fun h9 => absurd (by rw [kcS]; rfl) h9) _ _ ls hP hD hS (lv_sub hl [0, 1, 2, 3, 4] rfl)
    ·
      exfalso; omega
    ·
      exfalso; omega
  ·
    obtain ⟨hP, hD⟩ := hPD rfl
    have hP : va_P D vwCl (lw_St cI cJ cK x0 xn xl xt xo xf xs xp xq xr xc l1 l2 l3 t1 o1 f1 f2 s1 s2 p1 q1 r1 r2 r3 r4 r5 w0 w1 w2 w3 w4 w5 w6 w7 c1 c2 m0 a_row a_tape a_number a_read a_readBits a_stands a_parted a_bitsWere a_stood a_chosen a_bestChosen a_often a_sorted a_risen a_risenWays o0 z nf lz lb lo ln tz tf oz_8 of_9 fz_2 fn_3 fs_4 sz_5 sn_6 ss_7 pz pa pn qw qb rz rv rw rk wf0 wf1 wf2 wf3 wf4 wf5 wf6 wf7 ro rt rb rd cl cg cw m_thrown m_told m_taped m_at m_to m_many m_readMany m_fewest m_size mr mt mn md mb ms mp mw mo mc me mf mg mi mj ou) H := hP
    have hD : va_D A (lw_St cI cJ cK x0 xn xl xt xo xf xs xp xq xr xc l1 l2 l3 t1 o1 f1 f2 s1 s2 p1 q1 r1 r2 r3 r4 r5 w0 w1 w2 w3 w4 w5 w6 w7 c1 c2 m0 a_row a_tape a_number a_read a_readBits a_stands a_parted a_bitsWere a_stood a_chosen a_bestChosen a_often a_sorted a_risen a_risenWays o0 z nf lz lb lo ln tz tf oz_8 of_9 fz_2 fn_3 fs_4 sz_5 sn_6 ss_7 pz pa pn qw qb rz rv rw rk wf0 wf1 wf2 wf3 wf4 wf5 wf6 wf7 ro rt rb rd cl cg cw m_thrown m_told m_taped m_at m_to m_many m_readMany m_fewest m_size mr mt mn md mb ms mp mw mo mc me mf mg mi mj ou) := hD
    refine lv_pop hx hb dL_law_1750 rfl ?_
    refine lv_aload_n hx hb dL_law_1751 rfl (lv_at hl 2 rfl) ?_
    refine lv_aload_n hx hb dL_law_1752 rfl (lv_at hl 0 rfl) ?_
    refine lv_iload hx hb dL_law_1753 (lv_at hl 4 rfl) ?_
    refine lv_iconst (v := 1) hx hb dL_law_1755 (by decide +kernel) ?_
    refine lv_iadd hx hb dL_law_1756 ?_
    refine my_eqi (y := nI (i + 1)) (my_addN i 1) ?_
    refine va_sld hx hb hX hbl hbA hS (vp_in_nI (by omega) (by omega)) dL_law_1757 ?_
    refine my_eqi (y := sc (i + 1)) (congrArg sc (nI_clamp (by omega))) ?_
    refine lv_aload_n hx hb dL_law_1758 rfl (lv_at hl 0 rfl) ?_
    refine lv_iload hx hb dL_law_1759 (lv_at hl 4 rfl) ?_
    refine lv_iconst (v := 2) hx hb dL_law_1761 (by decide +kernel) ?_
    refine lv_iadd hx hb dL_law_1762 ?_
    refine my_eqi (y := nI (i + 2)) (my_addN i 2) ?_
    refine va_sld hx hb hX hbl hbA hS (vp_in_nI (by omega) (by omega)) dL_law_1763 ?_
    refine my_eqi (y := sc (i + 2)) (congrArg sc (nI_clamp (by omega))) ?_
    refine lv_aload_n hx hb dL_law_1764 rfl (lv_at hl 0 rfl) ?_
    refine lv_iload hx hb dL_law_1765 (lv_at hl 4 rfl) ?_
    refine lv_iconst (v := 3) hx hb dL_law_1767 (by decide +kernel) ?_
    refine lv_iadd hx hb dL_law_1768 ?_
    refine my_eqi (y := nI (i + 3)) (my_addN i 3) ?_
    refine va_sld hx hb hX hbl hbA hS (vp_in_nI (by omega) (by omega)) dL_law_1769 ?_
    refine my_eqi (y := sc (i + 3)) (congrArg sc (nI_clamp (by omega))) ?_
    refine lv_aload_n hx hb dL_law_1770 rfl (lv_at hl 0 rfl) ?_
    refine lv_iload hx hb dL_law_1771 (lv_at hl 4 rfl) ?_
    refine lv_iconst (v := 4) hx hb dL_law_1773 (by decide +kernel) ?_
    refine lv_iadd hx hb dL_law_1774 ?_
    refine my_eqi (y := nI (i + 4)) (my_addN i 4) ?_
    refine va_sld hx hb hX hbl hbA hS (vp_in_nI (by omega) (by omega)) dL_law_1775 ?_
    refine my_eqi (y := sc (i + 4)) (congrArg sc (nI_clamp (by omega))) ?_
    refine my_goIS (wc := (wl_k_X9_same cI cJ cK m0 a_row a_tape a_number a_read a_readBits a_stands a_parted a_bitsWere a_stood a_chosen a_bestChosen a_often a_sorted a_risen a_risenWays m_thrown (nI m_told) (nI m_taped) (nI m_at) (nI m_to) (nI m_many) (nI m_readMany) m_fewest (nI m_size) mn mf mr)) hP hD hS hA [37, 40, 49, 38] rfl [none, none, none, none, none, none, none, none, none, none, none, none, none, none, none, none, none, none, none, none, none, none, none, none, none, none, none, none, none, none, none, none, none, none, none, none, none, some 0, some 3, none, some 1, none, none, none, none, none, none, none, none, some 2] (by decide +kernel) (my_cV (As := [.int (sc (i + 1)), .int (sc (i + 2)), .int (sc (i + 3)), .int (sc (i + 4))]) (rest := []) (ci := 9) (wc := (wl_k_X9_same cI cJ cK m0 a_row a_tape a_number a_read a_readBits a_stands a_parted a_bitsWere a_stood a_chosen a_bestChosen a_often a_sorted a_risen a_risenWays m_thrown (nI m_told) (nI m_taped) (nI m_at) (nI m_to) (nI m_many) (nI m_readMany) m_fewest (nI m_size) mn mf mr)) ⟨hx, hb, hml, hown, hts⟩ (cwV 4 hts gL_law_X9_same rfl rfl rfl (by decide +kernel) ⟨Nat.le_of_ble_eq_true rfl, Nat.le_of_ble_eq_true rfl⟩) hN hK hP hD [37, 40, 49, 38] rfl (by decide) rfl 37 rfl rfl rfl rfl hl.1 rfl (Nat.le_of_ble_eq_true rfl) dL_law_1776 ⟨lw_rc (a := ce + 0) (k := 0) (by omega), lw_rs (a := sl + 0) (k := 0) (by omega)⟩  ((k_X9_same l D cI cJ cK m0 a_row a_tape a_number a_read a_readBits a_stands a_parted a_bitsWere a_stood a_chosen a_bestChosen a_often a_sorted a_risen a_risenWays m_thrown m_told m_taped m_at m_to m_many m_readMany m_fewest m_size mn mf mr (sc (i + 1)) (sc (i + 2)) (sc (i + 3)) (sc (i + 4)) hz_m_told hz_m_taped hz_m_at hz_m_to hz_m_many hz_m_readMany hz_m_size hR_mn) _)) (fun r u H locs hp hPD hS => ?_)
    rcases hp with ⟨m_thrown_60, rfl, rfl, ho_61⟩ | ⟨m_thrown_62, m_told_63, mf_64, mr_65, rfl, rfl, hhz_m_told_66, hu1_67, hu2_68, hu3_69, hx1_70, hx2_71, hx3_72, krA, krT⟩ | ⟨m_thrown_73, m_told_74, mf_75, mr_76, rfl, rfl, hhz_m_told_77, hu1_78, hu2_79, hu3_80, hx1_81, hx2_82, hx3_83, krE, krT⟩
    ·
      exfalso; omega
    ·
      obtain ⟨hP, hD⟩ := hPD rfl
      have hP : va_P D vwCl (lw_St cI cJ cK x0 xn xl xt xo xf xs xp xq xr xc l1 l2 l3 t1 o1 f1 f2 s1 s2 p1 q1 r1 r2 r3 r4 r5 w0 w1 w2 w3 w4 w5 w6 w7 c1 c2 m0 a_row a_tape a_number a_read a_readBits a_stands a_parted a_bitsWere a_stood a_chosen a_bestChosen a_often a_sorted a_risen a_risenWays o0 z nf lz lb lo ln tz tf oz_8 of_9 fz_2 fn_3 fs_4 sz_5 sn_6 ss_7 pz pa pn qw qb rz rv rw rk wf0 wf1 wf2 wf3 wf4 wf5 wf6 wf7 ro rt rb rd cl cg cw m_thrown_62 m_told_63 m_taped m_at m_to m_many m_readMany m_fewest m_size mr_65 mt mn md mb ms mp mw mo mc me mf_64 mg mi mj ou) H := hP
      have hD : va_D A (lw_St cI cJ cK x0 xn xl xt xo xf xs xp xq xr xc l1 l2 l3 t1 o1 f1 f2 s1 s2 p1 q1 r1 r2 r3 r4 r5 w0 w1 w2 w3 w4 w5 w6 w7 c1 c2 m0 a_row a_tape a_number a_read a_readBits a_stands a_parted a_bitsWere a_stood a_chosen a_bestChosen a_often a_sorted a_risen a_risenWays o0 z nf lz lb lo ln tz tf oz_8 of_9 fz_2 fn_3 fs_4 sz_5 sn_6 ss_7 pz pa pn qw qb rz rv rw rk wf0 wf1 wf2 wf3 wf4 wf5 wf6 wf7 ro rt rb rd cl cg cw m_thrown_62 m_told_63 m_taped m_at m_to m_many m_readMany m_fewest m_size mr_65 mt mn md mb ms mp mw mo mc me mf_64 mg mi mj ou) := hD
      refine lv_pop hx hb dL_law_1779 rfl ?_
      refine lv_goto (tgt := 1836) hx hb dL_law_1780 (by decide) ?_
      refine W.widen (k := ce + 6) (n := sl + 6) (show ce + 0 + 0 ≤ ce + 6 by omega) (show sl + 0 + 0 ≤ sl + 6 by omega) ?_
      exact kk z nf lz lb lo ln tz tf oz_8 of_9 fz_2 fn_3 fs_4 sz_5 sn_6 ss_7 pz pa pn qw qb rz rv rw rk wf0 wf1 wf2 wf3 wf4 wf5 wf6 wf7 ro rt rb rd cl cg cw m_thrown_62 m_told_63 m_taped m_at m_to m_many m_readMany m_fewest m_size mr_65 mt mn md mb ms mp mw mo mc me mf_64 mg mi mj ou hz_z hR_nf hz_lz hR_lo hR_ln hz_tz hR_tf (by first | assumption | omega | rfl) (by first | assumption | omega | rfl) (by first | assumption | omega | rfl) hz_pz hz_pa hR_pn hz_qw hz_rz hz_rv (by first | assumption | omega | rfl) hz_m_taped hz_m_at hz_m_to hz_m_many hz_m_readMany hz_m_size hR_mt hR_mn hR_md hR_mb hR_ms hR_mp hR_mo hR_mg hrel_t (by first | (exfalso; omega) | (rw [kcw, krw, show tz = tz + 4 from (by omega)]; exact sg_tie hrel_x hrel_t.symm) | exact hrel_x.le (by omega)) (by first | assumption | omega | (have h9 := (col_tie hrel_x nf mn).2.1; rw [← hrel_t] at krN; omega) | (have h9 := (pl_tie hrel_x).1; rw [← hrel_t] at krN; omega)) (by first | exact hrel_n | exact nm_put hrel_n kcF krF | exact nm_add hrel_n hrel_z kcF krF (by omega) | exact nm_col hrel_x hrel_t kcN krN kcF krF | exact nm_pl hrel_x hrel_t kcN krN kcF krF | exact nm_cut hrel_n hrel_z (by omega) (by omega) kcF krF | exact nm_swap hrel_n (by omega) (by omega) kcF krF | exact nm_rev hrel_n hrel_z (by omega) kcF krF) (by first | exact hrel_l | exact kcL.1) (by first | exact hrel_lz | exact kcL.2) (by first | assumption | omega) (by first | exact hrel_k | exact fun _ => kcK | exact fun h9 => absurd (by rw [kcS]; rfl) h9) _ _ ls hP hD hS (lv_sub hl [0, 1, 2, 3, 4] rfl)
    ·
      obtain ⟨u9, h9, h8⟩ := krE; exact absurd (kcA u9 h9) (by rw [cnF_tie (a := (sc (i + 1)).toInt.toNat) (b := (sc (i + 2)).toInt.toNat) hrel_n (by omega), cnF_tie (a := (sc (i + 3)).toInt.toNat) (b := (sc (i + 4)).toInt.toNat) hrel_n (by omega)]; exact h8)
  ·
    obtain ⟨hP, hD⟩ := hPD rfl
    have hP : va_P D vwCl (lw_St cI cJ cK x0 xn xl xt xo xf xs xp xq xr xc l1 l2 l3 t1 o1 f1 f2 s1 s2 p1 q1 r1 r2 r3 r4 r5 w0 w1 w2 w3 w4 w5 w6 w7 c1 c2 m0 a_row a_tape a_number a_read a_readBits a_stands a_parted a_bitsWere a_stood a_chosen a_bestChosen a_often a_sorted a_risen a_risenWays o0 z nf lz lb lo ln tz tf oz_25 of_26 fz_19 fn_20 fs_21 sz_22 sn_23 ss_24 pz pa pn qw qb rz rv rw rk wf0 wf1 wf2 wf3 wf4 wf5 wf6 wf7 ro rt rb rd cl cg cw m_thrown m_told m_taped m_at m_to m_many m_readMany m_fewest m_size mr mt mn md mb ms mp mw mo mc me mf mg mi mj ou) H := hP
    have hD : va_D A (lw_St cI cJ cK x0 xn xl xt xo xf xs xp xq xr xc l1 l2 l3 t1 o1 f1 f2 s1 s2 p1 q1 r1 r2 r3 r4 r5 w0 w1 w2 w3 w4 w5 w6 w7 c1 c2 m0 a_row a_tape a_number a_read a_readBits a_stands a_parted a_bitsWere a_stood a_chosen a_bestChosen a_often a_sorted a_risen a_risenWays o0 z nf lz lb lo ln tz tf oz_25 of_26 fz_19 fn_20 fs_21 sz_22 sn_23 ss_24 pz pa pn qw qb rz rv rw rk wf0 wf1 wf2 wf3 wf4 wf5 wf6 wf7 ro rt rb rd cl cg cw m_thrown m_told m_taped m_at m_to m_many m_readMany m_fewest m_size mr mt mn md mb ms mp mw mo mc me mf mg mi mj ou) := hD
    refine lv_pop hx hb dL_law_1750 rfl ?_
    refine lv_aload_n hx hb dL_law_1751 rfl (lv_at hl 2 rfl) ?_
    refine lv_aload_n hx hb dL_law_1752 rfl (lv_at hl 0 rfl) ?_
    refine lv_iload hx hb dL_law_1753 (lv_at hl 4 rfl) ?_
    refine lv_iconst (v := 1) hx hb dL_law_1755 (by decide +kernel) ?_
    refine lv_iadd hx hb dL_law_1756 ?_
    refine my_eqi (y := nI (i + 1)) (my_addN i 1) ?_
    refine va_sld hx hb hX hbl hbA hS (vp_in_nI (by omega) (by omega)) dL_law_1757 ?_
    refine my_eqi (y := sc (i + 1)) (congrArg sc (nI_clamp (by omega))) ?_
    refine lv_aload_n hx hb dL_law_1758 rfl (lv_at hl 0 rfl) ?_
    refine lv_iload hx hb dL_law_1759 (lv_at hl 4 rfl) ?_
    refine lv_iconst (v := 2) hx hb dL_law_1761 (by decide +kernel) ?_
    refine lv_iadd hx hb dL_law_1762 ?_
    refine my_eqi (y := nI (i + 2)) (my_addN i 2) ?_
    refine va_sld hx hb hX hbl hbA hS (vp_in_nI (by omega) (by omega)) dL_law_1763 ?_
    refine my_eqi (y := sc (i + 2)) (congrArg sc (nI_clamp (by omega))) ?_
    refine lv_aload_n hx hb dL_law_1764 rfl (lv_at hl 0 rfl) ?_
    refine lv_iload hx hb dL_law_1765 (lv_at hl 4 rfl) ?_
    refine lv_iconst (v := 3) hx hb dL_law_1767 (by decide +kernel) ?_
    refine lv_iadd hx hb dL_law_1768 ?_
    refine my_eqi (y := nI (i + 3)) (my_addN i 3) ?_
    refine va_sld hx hb hX hbl hbA hS (vp_in_nI (by omega) (by omega)) dL_law_1769 ?_
    refine my_eqi (y := sc (i + 3)) (congrArg sc (nI_clamp (by omega))) ?_
    refine lv_aload_n hx hb dL_law_1770 rfl (lv_at hl 0 rfl) ?_
    refine lv_iload hx hb dL_law_1771 (lv_at hl 4 rfl) ?_
    refine lv_iconst (v := 4) hx hb dL_law_1773 (by decide +kernel) ?_
    refine lv_iadd hx hb dL_law_1774 ?_
    refine my_eqi (y := nI (i + 4)) (my_addN i 4) ?_
    refine va_sld hx hb hX hbl hbA hS (vp_in_nI (by omega) (by omega)) dL_law_1775 ?_
    refine my_eqi (y := sc (i + 4)) (congrArg sc (nI_clamp (by omega))) ?_
    refine my_goIS (wc := (wl_k_X9_same cI cJ cK m0 a_row a_tape a_number a_read a_readBits a_stands a_parted a_bitsWere a_stood a_chosen a_bestChosen a_often a_sorted a_risen a_risenWays m_thrown (nI m_told) (nI m_taped) (nI m_at) (nI m_to) (nI m_many) (nI m_readMany) m_fewest (nI m_size) mn mf mr)) hP hD hS hA [37, 40, 49, 38] rfl [none, none, none, none, none, none, none, none, none, none, none, none, none, none, none, none, none, none, none, none, none, none, none, none, none, none, none, none, none, none, none, none, none, none, none, none, none, some 0, some 3, none, some 1, none, none, none, none, none, none, none, none, some 2] (by decide +kernel) (my_cV (As := [.int (sc (i + 1)), .int (sc (i + 2)), .int (sc (i + 3)), .int (sc (i + 4))]) (rest := []) (ci := 9) (wc := (wl_k_X9_same cI cJ cK m0 a_row a_tape a_number a_read a_readBits a_stands a_parted a_bitsWere a_stood a_chosen a_bestChosen a_often a_sorted a_risen a_risenWays m_thrown (nI m_told) (nI m_taped) (nI m_at) (nI m_to) (nI m_many) (nI m_readMany) m_fewest (nI m_size) mn mf mr)) ⟨hx, hb, hml, hown, hts⟩ (cwV 4 hts gL_law_X9_same rfl rfl rfl (by decide +kernel) ⟨Nat.le_of_ble_eq_true rfl, Nat.le_of_ble_eq_true rfl⟩) hN hK hP hD [37, 40, 49, 38] rfl (by decide) rfl 37 rfl rfl rfl rfl hl.1 rfl (Nat.le_of_ble_eq_true rfl) dL_law_1776 ⟨lw_rc (a := ce + 0) (k := 0) (by omega), lw_rs (a := sl + 0) (k := 0) (by omega)⟩  ((k_X9_same l D cI cJ cK m0 a_row a_tape a_number a_read a_readBits a_stands a_parted a_bitsWere a_stood a_chosen a_bestChosen a_often a_sorted a_risen a_risenWays m_thrown m_told m_taped m_at m_to m_many m_readMany m_fewest m_size mn mf mr (sc (i + 1)) (sc (i + 2)) (sc (i + 3)) (sc (i + 4)) hz_m_told hz_m_taped hz_m_at hz_m_to hz_m_many hz_m_readMany hz_m_size hR_mn) _)) (fun r u H locs hp hPD hS => ?_)
    rcases hp with ⟨m_thrown_84, rfl, rfl, ho_85⟩ | ⟨m_thrown_86, m_told_87, mf_88, mr_89, rfl, rfl, hhz_m_told_90, hu1_91, hu2_92, hu3_93, hx1_94, hx2_95, hx3_96, krA, krT⟩ | ⟨m_thrown_97, m_told_98, mf_99, mr_100, rfl, rfl, hhz_m_told_101, hu1_102, hu2_103, hu3_104, hx1_105, hx2_106, hx3_107, krE, krT⟩
    ·
      exfalso; omega
    ·
      obtain ⟨u9, h9, h8⟩ := kcE; exact absurd (krA u9 h9) (by rw [cnF_tie (a := (sc (i + 1)).toInt.toNat) (b := (sc (i + 2)).toInt.toNat) hrel_n (by omega), cnF_tie (a := (sc (i + 3)).toInt.toNat) (b := (sc (i + 4)).toInt.toNat) hrel_n (by omega)] at h8; exact h8)
    ·
      obtain ⟨hP, hD⟩ := hPD rfl
      have hP : va_P D vwCl (lw_St cI cJ cK x0 xn xl xt xo xf xs xp xq xr xc l1 l2 l3 t1 o1 f1 f2 s1 s2 p1 q1 r1 r2 r3 r4 r5 w0 w1 w2 w3 w4 w5 w6 w7 c1 c2 m0 a_row a_tape a_number a_read a_readBits a_stands a_parted a_bitsWere a_stood a_chosen a_bestChosen a_often a_sorted a_risen a_risenWays o0 z nf lz lb lo ln tz tf oz_25 of_26 fz_19 fn_20 fs_21 sz_22 sn_23 ss_24 pz pa pn qw qb rz rv rw rk wf0 wf1 wf2 wf3 wf4 wf5 wf6 wf7 ro rt rb rd cl cg cw m_thrown_97 m_told_98 m_taped m_at m_to m_many m_readMany m_fewest m_size mr_100 mt mn md mb ms mp mw mo mc me mf_99 mg mi mj ou) H := hP
      have hD : va_D A (lw_St cI cJ cK x0 xn xl xt xo xf xs xp xq xr xc l1 l2 l3 t1 o1 f1 f2 s1 s2 p1 q1 r1 r2 r3 r4 r5 w0 w1 w2 w3 w4 w5 w6 w7 c1 c2 m0 a_row a_tape a_number a_read a_readBits a_stands a_parted a_bitsWere a_stood a_chosen a_bestChosen a_often a_sorted a_risen a_risenWays o0 z nf lz lb lo ln tz tf oz_25 of_26 fz_19 fn_20 fs_21 sz_22 sn_23 ss_24 pz pa pn qw qb rz rv rw rk wf0 wf1 wf2 wf3 wf4 wf5 wf6 wf7 ro rt rb rd cl cg cw m_thrown_97 m_told_98 m_taped m_at m_to m_many m_readMany m_fewest m_size mr_100 mt mn md mb ms mp mw mo mc me mf_99 mg mi mj ou) := hD
      refine lv_pop hx hb dL_law_1779 rfl ?_
      refine lv_goto (tgt := 1836) hx hb dL_law_1780 (by decide) ?_
      refine W.widen (k := ce + 6) (n := sl + 6) (show ce + 0 + 0 ≤ ce + 6 by omega) (show sl + 0 + 0 ≤ sl + 6 by omega) ?_
      exact kk z nf lz lb lo ln tz tf oz_25 of_26 fz_19 fn_20 fs_21 sz_22 sn_23 ss_24 pz pa pn qw qb rz rv rw rk wf0 wf1 wf2 wf3 wf4 wf5 wf6 wf7 ro rt rb rd cl cg cw m_thrown_97 m_told_98 m_taped m_at m_to m_many m_readMany m_fewest m_size mr_100 mt mn md mb ms mp mw mo mc me mf_99 mg mi mj ou hz_z hR_nf hz_lz hR_lo hR_ln hz_tz hR_tf (by first | assumption | omega | rfl) (by first | assumption | omega | rfl) (by first | assumption | omega | rfl) hz_pz hz_pa hR_pn hz_qw hz_rz hz_rv (by first | assumption | omega | rfl) hz_m_taped hz_m_at hz_m_to hz_m_many hz_m_readMany hz_m_size hR_mt hR_mn hR_md hR_mb hR_ms hR_mp hR_mo hR_mg hrel_t (by first | (exfalso; omega) | (rw [kcw, krw, show tz = tz + 4 from (by omega)]; exact sg_tie hrel_x hrel_t.symm) | exact hrel_x.le (by omega)) (by first | assumption | omega | (have h9 := (col_tie hrel_x nf mn).2.1; rw [← hrel_t] at krN; omega) | (have h9 := (pl_tie hrel_x).1; rw [← hrel_t] at krN; omega)) (by first | exact hrel_n | exact nm_put hrel_n kcF krF | exact nm_add hrel_n hrel_z kcF krF (by omega) | exact nm_col hrel_x hrel_t kcN krN kcF krF | exact nm_pl hrel_x hrel_t kcN krN kcF krF | exact nm_cut hrel_n hrel_z (by omega) (by omega) kcF krF | exact nm_swap hrel_n (by omega) (by omega) kcF krF | exact nm_rev hrel_n hrel_z (by omega) kcF krF) (by first | exact hrel_l | exact kcL.1) (by first | exact hrel_lz | exact kcL.2) (by first | assumption | omega) (by first | exact hrel_k | exact fun _ => kcK | exact fun h9 => absurd (by rw [kcS]; rfl) h9) _ _ ls hP hD hS (lv_sub hl [0, 1, 2, 3, 4] rfl)
set_option maxHeartbeats 8000000 in
set_option maxRecDepth 100000 in
theorem law_case_39 {p : Program} {l : Launch} {e : Env} {s : State} {m : MethodId} {below : List Frame} {meth : Method} {c : Code} {D : va_G} {cI cJ cK : ClassId} {b L i : Nat} {sc : Nat → Int32} (C0 : lw_At p s m meth c b L sc) (hK : va_K D vwCl (tyIJ cI cJ cK) s) (hN : nw s) {A : Nat → Prop} (hAe : A = fun q : Nat => s.heap.size ≤ q) (hL : L ≤ 3072) (hi : i + 6 ≤ L) {ce sl : Nat} (hce : ce + 6 ≤ 601022) (hsl : sl + 6 ≤ 7293032) (x0 : Nat) (xn : Nat) (xl : Nat) (xt : Nat) (xo : Nat) (xf : Nat) (xs : Nat) (xp : Nat) (xq : Nat) (xr : Nat) (xc : Nat) (l1 : Nat) (l2 : Nat) (l3 : Nat) (t1 : Nat) (o1 : Nat) (f1 : Nat) (f2 : Nat) (s1 : Nat) (s2 : Nat) (p1 : Nat) (q1 : Nat) (r1 : Nat) (r2 : Nat) (r3 : Nat) (r4 : Nat) (r5 : Nat) (w0 : Nat) (w1 : Nat) (w2 : Nat) (w3 : Nat) (w4 : Nat) (w5 : Nat) (w6 : Nat) (w7 : Nat) (c1 : Nat) (c2 : Nat) (m0 : Nat) (a_row : Nat) (a_tape : Nat) (a_number : Nat) (a_read : Nat) (a_readBits : Nat) (a_stands : Nat) (a_parted : Nat) (a_bitsWere : Nat) (a_stood : Nat) (a_chosen : Nat) (a_bestChosen : Nat) (a_often : Nat) (a_sorted : Nat) (a_risen : Nat) (a_risenWays : Nat) (o0 : Nat) (z : Nat) (nf : Nat → Int32) (lz : Nat) (lb : Nat → Int64) (lo : Nat → Int32) (ln : Nat → Int32) (tz : Nat) (tf : Nat → Int32) (oz : Nat) (of : Nat → Int64) (fz : Nat) (fn : Nat → Int32) (fs : Nat → Int32) (sz : Nat) (sn : Nat → Int32) (ss : Nat → Int32) (pz : Nat) (pa : Nat) (pn : Nat → Int32) (qw : Nat) (qb : Nat → Int64) (rz : Nat) (rv : Nat) (rw : Int32) (rk : Int32) (wf0 : Nat → Int64) (wf1 : Nat → Int64) (wf2 : Nat → Int64) (wf3 : Nat → Int64) (wf4 : Nat → Int64) (wf5 : Nat → Int64) (wf6 : Nat → Int64) (wf7 : Nat → Int64) (ro : Nat → Int64) (rt : Nat → Int32) (rb : Nat → Int32) (rd : Nat → Int32) (cl : Int32) (cg : Nat → Int32) (cw : Nat → Int64) (m_thrown : Int32) (m_told : Nat) (m_taped : Nat) (m_at : Nat) (m_to : Nat) (m_many : Nat) (m_readMany : Nat) (m_fewest : Int32) (m_size : Nat) (mr : Nat → Int64) (mt : Nat → Int32) (mn : Nat → Int32) (md : Nat → Int32) (mb : Nat → Int32) (ms : Nat → Int32) (mp : Nat → Int32) (mw : Nat → Int32) (mo : Nat → Int32) (mc : Nat → Int32) (me : Nat → Int32) (mf : Nat → Int32) (mg : Nat → Int32) (mi : Nat → Int32) (mj : Nat → Int64) (ou : Nat → Int64) (hz_z : z ≤ 64) (hR_nf : RB 0 255 nf) (hz_lz : lz ≤ 64) (hR_lo : RB 0 63 lo) (hR_ln : RB 0 63 ln) (hz_tz : tz ≤ 100) (hR_tf : RB 0 255 tf) (hz_oz : oz ≤ 64) (hz_fz : fz ≤ 64) (hz_sz : sz ≤ 64) (hz_pz : pz ≤ 64) (hz_pa : pa ≤ 100) (hR_pn : RB 0 255 pn) (hz_qw : qw ≤ 11) (hz_rz : rz ≤ 64) (hz_rv : rv ≤ 8) (hz_m_told : m_told ≤ 64) (hz_m_taped : m_taped ≤ 100) (hz_m_at : m_at ≤ 100) (hz_m_to : m_to ≤ 100) (hz_m_many : m_many ≤ 64) (hz_m_readMany : m_readMany ≤ 64) (hz_m_size : m_size ≤ 64) (hR_mt : RB 0 255 mt) (hR_mn : RB 0 255 mn) (hR_md : RB 0 255 md) (hR_mb : RB 0 1 mb) (hR_ms : RB 0 63 ms) (hR_mp : RB 0 63 mp) (hR_mo : RB 0 63 mo) (hR_mg : RB 0 255 mg) (hrel_t : tz = m_taped) (hrel_x : txEq tz tf mt) (hrel_z : z = m_many) (hrel_n : ∀ j, j < z → nf j = mn j) (hrel_l : LVL lb nf z) (hrel_lz : lz = z) (hrel_o : oz = m_told) (hrel_k : rk.toInt ≠ 0 → rw = nI (thF nf z)) (H : Heap) (locs : List Loc) (ls : Array Slot) (hP : va_P D vwCl (lw_St cI cJ cK x0 xn xl xt xo xf xs xp xq xr xc l1 l2 l3 t1 o1 f1 f2 s1 s2 p1 q1 r1 r2 r3 r4 r5 w0 w1 w2 w3 w4 w5 w6 w7 c1 c2 m0 a_row a_tape a_number a_read a_readBits a_stands a_parted a_bitsWere a_stood a_chosen a_bestChosen a_often a_sorted a_risen a_risenWays o0 z nf lz lb lo ln tz tf oz of fz fn fs sz sn ss pz pa pn qw qb rz rv rw rk wf0 wf1 wf2 wf3 wf4 wf5 wf6 wf7 ro rt rb rd cl cg cw m_thrown m_told m_taped m_at m_to m_many m_readMany m_fewest m_size mr mt mn md mb ms mp mw mo mc me mf mg mi mj ou) H) (hD : va_D A (lw_St cI cJ cK x0 xn xl xt xo xf xs xp xq xr xc l1 l2 l3 t1 o1 f1 f2 s1 s2 p1 q1 r1 r2 r3 r4 r5 w0 w1 w2 w3 w4 w5 w6 w7 c1 c2 m0 a_row a_tape a_number a_read a_readBits a_stands a_parted a_bitsWere a_stood a_chosen a_bestChosen a_often a_sorted a_risen a_risenWays o0 z nf lz lb lo ln tz tf oz of fz fn fs sz sn ss pz pa pn qw qb rz rv rw rk wf0 wf1 wf2 wf3 wf4 wf5 wf6 wf7 ro rt rb rd cl cg cw m_thrown m_told m_taped m_at m_to m_many m_readMany m_fewest m_size mr mt mn md mb ms mp mw mo mc me mf mg mi mj ou)) (hS : va_S A s.heap H locs) (hl : lv_has ls 8 [(0, .ref b), (1, .ref x0), (2, .ref m0), (3, .ref o0), (4, .int (nI i))]) (kk : ∀ (z : Nat) (nf : Nat → Int32) (lz : Nat) (lb : Nat → Int64) (lo : Nat → Int32) (ln : Nat → Int32) (tz : Nat) (tf : Nat → Int32) (oz : Nat) (of : Nat → Int64) (fz : Nat) (fn : Nat → Int32) (fs : Nat → Int32) (sz : Nat) (sn : Nat → Int32) (ss : Nat → Int32) (pz : Nat) (pa : Nat) (pn : Nat → Int32) (qw : Nat) (qb : Nat → Int64) (rz : Nat) (rv : Nat) (rw : Int32) (rk : Int32) (wf0 : Nat → Int64) (wf1 : Nat → Int64) (wf2 : Nat → Int64) (wf3 : Nat → Int64) (wf4 : Nat → Int64) (wf5 : Nat → Int64) (wf6 : Nat → Int64) (wf7 : Nat → Int64) (ro : Nat → Int64) (rt : Nat → Int32) (rb : Nat → Int32) (rd : Nat → Int32) (cl : Int32) (cg : Nat → Int32) (cw : Nat → Int64) (m_thrown : Int32) (m_told : Nat) (m_taped : Nat) (m_at : Nat) (m_to : Nat) (m_many : Nat) (m_readMany : Nat) (m_fewest : Int32) (m_size : Nat) (mr : Nat → Int64) (mt : Nat → Int32) (mn : Nat → Int32) (md : Nat → Int32) (mb : Nat → Int32) (ms : Nat → Int32) (mp : Nat → Int32) (mw : Nat → Int32) (mo : Nat → Int32) (mc : Nat → Int32) (me : Nat → Int32) (mf : Nat → Int32) (mg : Nat → Int32) (mi : Nat → Int32) (mj : Nat → Int64) (ou : Nat → Int64), (z ≤ 64) → (RB 0 255 nf) → (lz ≤ 64) → (RB 0 63 lo) → (RB 0 63 ln) → (tz ≤ 100) → (RB 0 255 tf) → (oz ≤ 64) → (fz ≤ 64) → (sz ≤ 64) → (pz ≤ 64) → (pa ≤ 100) → (RB 0 255 pn) → (qw ≤ 11) → (rz ≤ 64) → (rv ≤ 8) → (m_told ≤ 64) → (m_taped ≤ 100) → (m_at ≤ 100) → (m_to ≤ 100) → (m_many ≤ 64) → (m_readMany ≤ 64) → (m_size ≤ 64) → (RB 0 255 mt) → (RB 0 255 mn) → (RB 0 255 md) → (RB 0 1 mb) → (RB 0 63 ms) → (RB 0 63 mp) → (RB 0 63 mo) → (RB 0 255 mg) → (tz = m_taped) → (txEq tz tf mt) → (z = m_many) → (∀ j, j < z → nf j = mn j) → (LVL lb nf z) → (lz = z) → (oz = m_told) → (rk.toInt ≠ 0 → rw = nI (thF nf z)) → ∀ (H : Heap) (locs : List Loc) (ls : Array Slot), va_P D vwCl (lw_St cI cJ cK x0 xn xl xt xo xf xs xp xq xr xc l1 l2 l3 t1 o1 f1 f2 s1 s2 p1 q1 r1 r2 r3 r4 r5 w0 w1 w2 w3 w4 w5 w6 w7 c1 c2 m0 a_row a_tape a_number a_read a_readBits a_stands a_parted a_bitsWere a_stood a_chosen a_bestChosen a_often a_sorted a_risen a_risenWays o0 z nf lz lb lo ln tz tf oz of fz fn fs sz sn ss pz pa pn qw qb rz rv rw rk wf0 wf1 wf2 wf3 wf4 wf5 wf6 wf7 ro rt rb rd cl cg cw m_thrown m_told m_taped m_at m_to m_many m_readMany m_fewest m_size mr mt mn md mb ms mp mw mo mc me mf mg mi mj ou) H → va_D A (lw_St cI cJ cK x0 xn xl xt xo xf xs xp xq xr xc l1 l2 l3 t1 o1 f1 f2 s1 s2 p1 q1 r1 r2 r3 r4 r5 w0 w1 w2 w3 w4 w5 w6 w7 c1 c2 m0 a_row a_tape a_number a_read a_readBits a_stands a_parted a_bitsWere a_stood a_chosen a_bestChosen a_often a_sorted a_risen a_risenWays o0 z nf lz lb lo ln tz tf oz of fz fn fs sz sn ss pz pa pn qw qb rz rv rw rk wf0 wf1 wf2 wf3 wf4 wf5 wf6 wf7 ro rt rb rd cl cg cw m_thrown m_told m_taped m_at m_to m_many m_readMany m_fewest m_size mr mt mn md mb ms mp mw mo mc me mf mg mi mj ou) → va_S A s.heap H locs → lv_has ls 8 [(0, .ref b), (1, .ref x0), (2, .ref m0), (3, .ref o0), (4, .int (nI i))] → W p l e room_1 s m #[Value.ref b] below meth c H locs (ce + 6) (sl + 6) (lw_Z below #[Value.ref b] s) (F0 m 1836 ls [])) : W p l e room_1 s m #[Value.ref b] below meth c H locs ce sl (lw_Z below #[Value.ref b] s) (F0 m 1783 ls []) := by
  obtain ⟨hx, hb, hr, hml, hown, hts, hX, hbl, hlocks, hgv⟩ := id C0
  have hts := fun w h => hts w (wsL_law_in w h)
  have hown : s.vm.findClass RL = some m.cls := hown
  have hb : c.code = cL_law := hb
  have hA : ∀ q : Nat, s.heap.size ≤ q → A q := fun q h => by rw [hAe]; exact h
  have hbA : ¬ A b := by rw [hAe]; exact Nat.not_le.mpr hbl
  refine lv_aload_n hx hb dL_law_1783 rfl (lv_at hl 1 rfl) ?_
  refine lv_aload_n hx hb dL_law_1784 rfl (lv_at hl 0 rfl) ?_
  refine lv_iload hx hb dL_law_1785 (lv_at hl 4 rfl) ?_
  refine lv_iconst (v := 1) hx hb dL_law_1787 (by decide +kernel) ?_
  refine lv_iadd hx hb dL_law_1788 ?_
  refine my_eqi (y := nI (i + 1)) (my_addN i 1) ?_
  refine va_sld hx hb hX hbl hbA hS (vp_in_nI (by omega) (by omega)) dL_law_1789 ?_
  refine my_eqi (y := sc (i + 1)) (congrArg sc (nI_clamp (by omega))) ?_
  refine my_gpI (my_pV (As := [.int (sc (i + 1))]) (rest := []) (ci := 8) ⟨hx, hb, hml, hown, hts⟩ (cwV 1 hts gL_law_X8_count rfl rfl rfl (by decide +kernel) ⟨Nat.le_of_ble_eq_true rfl, Nat.le_of_ble_eq_true rfl⟩) hN hK hP [0, 1, 6, 8] rfl 0 rfl rfl rfl rfl hl.1 rfl (Nat.le_of_ble_eq_true rfl) dL_law_1790 ⟨lw_rc0 (a := ce) (by omega), lw_rs0 (a := sl) (by omega)⟩  (k_X8_count l D cI cJ cK x0 xn xl xt xo xf xs xp xq xr xc t1 o1 z nf tz oz (sc (i + 1)) hz_z hR_nf hz_tz hz_oz)) (fun r hp => ?_)
  rcases hp with ⟨rfl, hu1_1⟩ | ⟨rfl, hu1_2⟩ | ⟨rfl, hu1_3⟩ | ⟨t_4, rfl, hu1_5, kcR⟩ | ⟨t_6, rfl, hu1_7, kcR⟩ | ⟨t_8, rfl, hu1_9, kcR⟩ | ⟨rfl, ho_10⟩
  ·
    refine lv_aload_n hx hb dL_law_1793 rfl (lv_at hl 2 rfl) ?_
    refine lv_aload_n hx hb dL_law_1794 rfl (lv_at hl 0 rfl) ?_
    refine lv_iload hx hb dL_law_1795 (lv_at hl 4 rfl) ?_
    refine lv_iconst (v := 1) hx hb dL_law_1797 (by decide +kernel) ?_
    refine lv_iadd hx hb dL_law_1798 ?_
    refine my_eqi (y := nI (i + 1)) (my_addN i 1) ?_
    refine va_sld hx hb hX hbl hbA hS (vp_in_nI (by omega) (by omega)) dL_law_1799 ?_
    refine my_eqi (y := sc (i + 1)) (congrArg sc (nI_clamp (by omega))) ?_
    refine my_goIS (wc := (wl_k_X9_count cI cJ cK m0 a_row a_tape a_number a_read a_readBits a_stands a_parted a_bitsWere a_stood a_chosen a_bestChosen a_often a_sorted a_risen a_risenWays m_thrown (nI m_told) (nI m_taped) (nI m_at) (nI m_to) (nI m_many) (nI m_readMany) m_fewest (nI m_size) mn mf)) hP hD hS hA [37, 40, 49] rfl [none, none, none, none, none, none, none, none, none, none, none, none, none, none, none, none, none, none, none, none, none, none, none, none, none, none, none, none, none, none, none, none, none, none, none, none, none, some 0, none, none, some 1, none, none, none, none, none, none, none, none, some 2] (by decide +kernel) (my_cV (As := [.int (sc (i + 1))]) (rest := [.int (nI z)]) (ci := 9) (wc := (wl_k_X9_count cI cJ cK m0 a_row a_tape a_number a_read a_readBits a_stands a_parted a_bitsWere a_stood a_chosen a_bestChosen a_often a_sorted a_risen a_risenWays m_thrown (nI m_told) (nI m_taped) (nI m_at) (nI m_to) (nI m_many) (nI m_readMany) m_fewest (nI m_size) mn mf)) ⟨hx, hb, hml, hown, hts⟩ (cwV 1 hts gL_law_X9_count rfl rfl rfl (by decide +kernel) ⟨Nat.le_of_ble_eq_true rfl, Nat.le_of_ble_eq_true rfl⟩) hN hK hP hD [37, 40, 49] rfl (by decide) rfl 37 rfl rfl rfl rfl hl.1 rfl (Nat.le_of_ble_eq_true rfl) dL_law_1800 ⟨lw_rc (a := ce) (k := 0) (by omega), lw_rs (a := sl) (k := 0) (by omega)⟩  ((k_X9_count l D cI cJ cK m0 a_row a_tape a_number a_read a_readBits a_stands a_parted a_bitsWere a_stood a_chosen a_bestChosen a_often a_sorted a_risen a_risenWays m_thrown m_told m_taped m_at m_to m_many m_readMany m_fewest m_size mn mf (sc (i + 1)) hz_m_told hz_m_taped hz_m_at hz_m_to hz_m_many hz_m_readMany hz_m_size hR_mn) _)) (fun r u H locs hp hPD hS => ?_)
    rcases hp with ⟨m_thrown_11, rfl, rfl, hu1_12⟩ | ⟨m_thrown_13, rfl, rfl, hu1_14⟩ | ⟨m_thrown_15, rfl, rfl, hu1_16⟩ | ⟨t_17, m_thrown_18, mf_19, rfl, rfl, hu1_20, krR⟩ | ⟨t_21, m_thrown_22, mf_23, rfl, rfl, hu1_24, krR⟩ | ⟨t_25, m_thrown_26, mf_27, rfl, rfl, hu1_28, krR⟩ | ⟨m_thrown_29, rfl, rfl, ho_30⟩
    ·
      obtain ⟨hP, hD⟩ := hPD rfl
      have hP : va_P D vwCl (lw_St cI cJ cK x0 xn xl xt xo xf xs xp xq xr xc l1 l2 l3 t1 o1 f1 f2 s1 s2 p1 q1 r1 r2 r3 r4 r5 w0 w1 w2 w3 w4 w5 w6 w7 c1 c2 m0 a_row a_tape a_number a_read a_readBits a_stands a_parted a_bitsWere a_stood a_chosen a_bestChosen a_often a_sorted a_risen a_risenWays o0 z nf lz lb lo ln tz tf oz of fz fn fs sz sn ss pz pa pn qw qb rz rv rw rk wf0 wf1 wf2 wf3 wf4 wf5 wf6 wf7 ro rt rb rd cl cg cw m_thrown_11 m_told m_taped m_at m_to m_many m_readMany m_fewest m_size mr mt mn md mb ms mp mw mo mc me mf mg mi mj ou) H := hP
      have hD : va_D A (lw_St cI cJ cK x0 xn xl xt xo xf xs xp xq xr xc l1 l2 l3 t1 o1 f1 f2 s1 s2 p1 q1 r1 r2 r3 r4 r5 w0 w1 w2 w3 w4 w5 w6 w7 c1 c2 m0 a_row a_tape a_number a_read a_readBits a_stands a_parted a_bitsWere a_stood a_chosen a_bestChosen a_often a_sorted a_risen a_risenWays o0 z nf lz lb lo ln tz tf oz of fz fn fs sz sn ss pz pa pn qw qb rz rv rw rk wf0 wf1 wf2 wf3 wf4 wf5 wf6 wf7 ro rt rb rd cl cg cw m_thrown_11 m_told m_taped m_at m_to m_many m_readMany m_fewest m_size mr mt mn md mb ms mp mw mo mc me mf mg mi mj ou) := hD
      refine lv_icmp_eq (tgt := 1836) hx hb dL_law_1803 (by decide) (fun c1803 => ?_) (fun c1803 => absurd (show nI z = nI m_many from congrArg nI hrel_z) c1803)
      refine W.widen (k := ce + 6) (n := sl + 6) (show ce + 0 ≤ ce + 6 by omega) (show sl + 0 ≤ sl + 6 by omega) ?_
      exact kk z nf lz lb lo ln tz tf oz of fz fn fs sz sn ss pz pa pn qw qb rz rv rw rk wf0 wf1 wf2 wf3 wf4 wf5 wf6 wf7 ro rt rb rd cl cg cw m_thrown_11 m_told m_taped m_at m_to m_many m_readMany m_fewest m_size mr mt mn md mb ms mp mw mo mc me mf mg mi mj ou hz_z hR_nf hz_lz hR_lo hR_ln hz_tz hR_tf hz_oz hz_fz hz_sz hz_pz hz_pa hR_pn hz_qw hz_rz hz_rv hz_m_told hz_m_taped hz_m_at hz_m_to hz_m_many hz_m_readMany hz_m_size hR_mt hR_mn hR_md hR_mb hR_ms hR_mp hR_mo hR_mg hrel_t (by first | (exfalso; omega) | (rw [kcw, krw, show tz = tz + 4 from (by omega)]; exact sg_tie hrel_x hrel_t.symm) | exact hrel_x.le (by omega)) (by first | assumption | omega | (have h9 := (col_tie hrel_x nf mn).2.1; rw [← hrel_t] at krN; omega) | (have h9 := (pl_tie hrel_x).1; rw [← hrel_t] at krN; omega)) (by first | exact hrel_n | exact nm_put hrel_n kcF krF | exact nm_add hrel_n hrel_z kcF krF (by omega) | exact nm_col hrel_x hrel_t kcN krN kcF krF | exact nm_pl hrel_x hrel_t kcN krN kcF krF | exact nm_cut hrel_n hrel_z (by omega) (by omega) kcF krF | exact nm_swap hrel_n (by omega) (by omega) kcF krF | exact nm_rev hrel_n hrel_z (by omega) kcF krF) (by first | exact hrel_l | exact kcL.1) (by first | exact hrel_lz | exact kcL.2) (by first | assumption | omega) (by first | exact hrel_k | exact fun _ => kcK | exact fun h9 => absurd (by rw [kcS]; rfl) h9) _ _ ls hP hD hS (lv_sub hl [0, 1, 2, 3, 4] rfl)
    ·
      exfalso; omega
    ·
      exfalso; omega
    ·
      exfalso; omega
    ·
      exfalso; omega
    ·
      exfalso; omega
    ·
      exfalso; omega
  ·
    refine lv_aload_n hx hb dL_law_1793 rfl (lv_at hl 2 rfl) ?_
    refine lv_aload_n hx hb dL_law_1794 rfl (lv_at hl 0 rfl) ?_
    refine lv_iload hx hb dL_law_1795 (lv_at hl 4 rfl) ?_
    refine lv_iconst (v := 1) hx hb dL_law_1797 (by decide +kernel) ?_
    refine lv_iadd hx hb dL_law_1798 ?_
    refine my_eqi (y := nI (i + 1)) (my_addN i 1) ?_
    refine va_sld hx hb hX hbl hbA hS (vp_in_nI (by omega) (by omega)) dL_law_1799 ?_
    refine my_eqi (y := sc (i + 1)) (congrArg sc (nI_clamp (by omega))) ?_
    refine my_goIS (wc := (wl_k_X9_count cI cJ cK m0 a_row a_tape a_number a_read a_readBits a_stands a_parted a_bitsWere a_stood a_chosen a_bestChosen a_often a_sorted a_risen a_risenWays m_thrown (nI m_told) (nI m_taped) (nI m_at) (nI m_to) (nI m_many) (nI m_readMany) m_fewest (nI m_size) mn mf)) hP hD hS hA [37, 40, 49] rfl [none, none, none, none, none, none, none, none, none, none, none, none, none, none, none, none, none, none, none, none, none, none, none, none, none, none, none, none, none, none, none, none, none, none, none, none, none, some 0, none, none, some 1, none, none, none, none, none, none, none, none, some 2] (by decide +kernel) (my_cV (As := [.int (sc (i + 1))]) (rest := [.int (nI tz)]) (ci := 9) (wc := (wl_k_X9_count cI cJ cK m0 a_row a_tape a_number a_read a_readBits a_stands a_parted a_bitsWere a_stood a_chosen a_bestChosen a_often a_sorted a_risen a_risenWays m_thrown (nI m_told) (nI m_taped) (nI m_at) (nI m_to) (nI m_many) (nI m_readMany) m_fewest (nI m_size) mn mf)) ⟨hx, hb, hml, hown, hts⟩ (cwV 1 hts gL_law_X9_count rfl rfl rfl (by decide +kernel) ⟨Nat.le_of_ble_eq_true rfl, Nat.le_of_ble_eq_true rfl⟩) hN hK hP hD [37, 40, 49] rfl (by decide) rfl 37 rfl rfl rfl rfl hl.1 rfl (Nat.le_of_ble_eq_true rfl) dL_law_1800 ⟨lw_rc (a := ce) (k := 0) (by omega), lw_rs (a := sl) (k := 0) (by omega)⟩  ((k_X9_count l D cI cJ cK m0 a_row a_tape a_number a_read a_readBits a_stands a_parted a_bitsWere a_stood a_chosen a_bestChosen a_often a_sorted a_risen a_risenWays m_thrown m_told m_taped m_at m_to m_many m_readMany m_fewest m_size mn mf (sc (i + 1)) hz_m_told hz_m_taped hz_m_at hz_m_to hz_m_many hz_m_readMany hz_m_size hR_mn) _)) (fun r u H locs hp hPD hS => ?_)
    rcases hp with ⟨m_thrown_31, rfl, rfl, hu1_32⟩ | ⟨m_thrown_33, rfl, rfl, hu1_34⟩ | ⟨m_thrown_35, rfl, rfl, hu1_36⟩ | ⟨t_37, m_thrown_38, mf_39, rfl, rfl, hu1_40, krR⟩ | ⟨t_41, m_thrown_42, mf_43, rfl, rfl, hu1_44, krR⟩ | ⟨t_45, m_thrown_46, mf_47, rfl, rfl, hu1_48, krR⟩ | ⟨m_thrown_49, rfl, rfl, ho_50⟩
    ·
      exfalso; omega
    ·
      obtain ⟨hP, hD⟩ := hPD rfl
      have hP : va_P D vwCl (lw_St cI cJ cK x0 xn xl xt xo xf xs xp xq xr xc l1 l2 l3 t1 o1 f1 f2 s1 s2 p1 q1 r1 r2 r3 r4 r5 w0 w1 w2 w3 w4 w5 w6 w7 c1 c2 m0 a_row a_tape a_number a_read a_readBits a_stands a_parted a_bitsWere a_stood a_chosen a_bestChosen a_often a_sorted a_risen a_risenWays o0 z nf lz lb lo ln tz tf oz of fz fn fs sz sn ss pz pa pn qw qb rz rv rw rk wf0 wf1 wf2 wf3 wf4 wf5 wf6 wf7 ro rt rb rd cl cg cw m_thrown_33 m_told m_taped m_at m_to m_many m_readMany m_fewest m_size mr mt mn md mb ms mp mw mo mc me mf mg mi mj ou) H := hP
      have hD : va_D A (lw_St cI cJ cK x0 xn xl xt xo xf xs xp xq xr xc l1 l2 l3 t1 o1 f1 f2 s1 s2 p1 q1 r1 r2 r3 r4 r5 w0 w1 w2 w3 w4 w5 w6 w7 c1 c2 m0 a_row a_tape a_number a_read a_readBits a_stands a_parted a_bitsWere a_stood a_chosen a_bestChosen a_often a_sorted a_risen a_risenWays o0 z nf lz lb lo ln tz tf oz of fz fn fs sz sn ss pz pa pn qw qb rz rv rw rk wf0 wf1 wf2 wf3 wf4 wf5 wf6 wf7 ro rt rb rd cl cg cw m_thrown_33 m_told m_taped m_at m_to m_many m_readMany m_fewest m_size mr mt mn md mb ms mp mw mo mc me mf mg mi mj ou) := hD
      refine lv_icmp_eq (tgt := 1836) hx hb dL_law_1803 (by decide) (fun c1803 => ?_) (fun c1803 => absurd (show nI tz = nI m_taped from congrArg nI hrel_t) c1803)
      refine W.widen (k := ce + 6) (n := sl + 6) (show ce + 0 ≤ ce + 6 by omega) (show sl + 0 ≤ sl + 6 by omega) ?_
      exact kk z nf lz lb lo ln tz tf oz of fz fn fs sz sn ss pz pa pn qw qb rz rv rw rk wf0 wf1 wf2 wf3 wf4 wf5 wf6 wf7 ro rt rb rd cl cg cw m_thrown_33 m_told m_taped m_at m_to m_many m_readMany m_fewest m_size mr mt mn md mb ms mp mw mo mc me mf mg mi mj ou hz_z hR_nf hz_lz hR_lo hR_ln hz_tz hR_tf hz_oz hz_fz hz_sz hz_pz hz_pa hR_pn hz_qw hz_rz hz_rv hz_m_told hz_m_taped hz_m_at hz_m_to hz_m_many hz_m_readMany hz_m_size hR_mt hR_mn hR_md hR_mb hR_ms hR_mp hR_mo hR_mg hrel_t (by first | (exfalso; omega) | (rw [kcw, krw, show tz = tz + 4 from (by omega)]; exact sg_tie hrel_x hrel_t.symm) | exact hrel_x.le (by omega)) (by first | assumption | omega | (have h9 := (col_tie hrel_x nf mn).2.1; rw [← hrel_t] at krN; omega) | (have h9 := (pl_tie hrel_x).1; rw [← hrel_t] at krN; omega)) (by first | exact hrel_n | exact nm_put hrel_n kcF krF | exact nm_add hrel_n hrel_z kcF krF (by omega) | exact nm_col hrel_x hrel_t kcN krN kcF krF | exact nm_pl hrel_x hrel_t kcN krN kcF krF | exact nm_cut hrel_n hrel_z (by omega) (by omega) kcF krF | exact nm_swap hrel_n (by omega) (by omega) kcF krF | exact nm_rev hrel_n hrel_z (by omega) kcF krF) (by first | exact hrel_l | exact kcL.1) (by first | exact hrel_lz | exact kcL.2) (by first | assumption | omega) (by first | exact hrel_k | exact fun _ => kcK | exact fun h9 => absurd (by rw [kcS]; rfl) h9) _ _ ls hP hD hS (lv_sub hl [0, 1, 2, 3, 4] rfl)
    ·
      exfalso; omega
    ·
      exfalso; omega
    ·
      exfalso; omega
    ·
      exfalso; omega
    ·
      exfalso; omega
  ·
    refine lv_aload_n hx hb dL_law_1793 rfl (lv_at hl 2 rfl) ?_
    refine lv_aload_n hx hb dL_law_1794 rfl (lv_at hl 0 rfl) ?_
    refine lv_iload hx hb dL_law_1795 (lv_at hl 4 rfl) ?_
    refine lv_iconst (v := 1) hx hb dL_law_1797 (by decide +kernel) ?_
    refine lv_iadd hx hb dL_law_1798 ?_
    refine my_eqi (y := nI (i + 1)) (my_addN i 1) ?_
    refine va_sld hx hb hX hbl hbA hS (vp_in_nI (by omega) (by omega)) dL_law_1799 ?_
    refine my_eqi (y := sc (i + 1)) (congrArg sc (nI_clamp (by omega))) ?_
    refine my_goIS (wc := (wl_k_X9_count cI cJ cK m0 a_row a_tape a_number a_read a_readBits a_stands a_parted a_bitsWere a_stood a_chosen a_bestChosen a_often a_sorted a_risen a_risenWays m_thrown (nI m_told) (nI m_taped) (nI m_at) (nI m_to) (nI m_many) (nI m_readMany) m_fewest (nI m_size) mn mf)) hP hD hS hA [37, 40, 49] rfl [none, none, none, none, none, none, none, none, none, none, none, none, none, none, none, none, none, none, none, none, none, none, none, none, none, none, none, none, none, none, none, none, none, none, none, none, none, some 0, none, none, some 1, none, none, none, none, none, none, none, none, some 2] (by decide +kernel) (my_cV (As := [.int (sc (i + 1))]) (rest := [.int (nI oz)]) (ci := 9) (wc := (wl_k_X9_count cI cJ cK m0 a_row a_tape a_number a_read a_readBits a_stands a_parted a_bitsWere a_stood a_chosen a_bestChosen a_often a_sorted a_risen a_risenWays m_thrown (nI m_told) (nI m_taped) (nI m_at) (nI m_to) (nI m_many) (nI m_readMany) m_fewest (nI m_size) mn mf)) ⟨hx, hb, hml, hown, hts⟩ (cwV 1 hts gL_law_X9_count rfl rfl rfl (by decide +kernel) ⟨Nat.le_of_ble_eq_true rfl, Nat.le_of_ble_eq_true rfl⟩) hN hK hP hD [37, 40, 49] rfl (by decide) rfl 37 rfl rfl rfl rfl hl.1 rfl (Nat.le_of_ble_eq_true rfl) dL_law_1800 ⟨lw_rc (a := ce) (k := 0) (by omega), lw_rs (a := sl) (k := 0) (by omega)⟩  ((k_X9_count l D cI cJ cK m0 a_row a_tape a_number a_read a_readBits a_stands a_parted a_bitsWere a_stood a_chosen a_bestChosen a_often a_sorted a_risen a_risenWays m_thrown m_told m_taped m_at m_to m_many m_readMany m_fewest m_size mn mf (sc (i + 1)) hz_m_told hz_m_taped hz_m_at hz_m_to hz_m_many hz_m_readMany hz_m_size hR_mn) _)) (fun r u H locs hp hPD hS => ?_)
    rcases hp with ⟨m_thrown_51, rfl, rfl, hu1_52⟩ | ⟨m_thrown_53, rfl, rfl, hu1_54⟩ | ⟨m_thrown_55, rfl, rfl, hu1_56⟩ | ⟨t_57, m_thrown_58, mf_59, rfl, rfl, hu1_60, krR⟩ | ⟨t_61, m_thrown_62, mf_63, rfl, rfl, hu1_64, krR⟩ | ⟨t_65, m_thrown_66, mf_67, rfl, rfl, hu1_68, krR⟩ | ⟨m_thrown_69, rfl, rfl, ho_70⟩
    ·
      exfalso; omega
    ·
      exfalso; omega
    ·
      obtain ⟨hP, hD⟩ := hPD rfl
      have hP : va_P D vwCl (lw_St cI cJ cK x0 xn xl xt xo xf xs xp xq xr xc l1 l2 l3 t1 o1 f1 f2 s1 s2 p1 q1 r1 r2 r3 r4 r5 w0 w1 w2 w3 w4 w5 w6 w7 c1 c2 m0 a_row a_tape a_number a_read a_readBits a_stands a_parted a_bitsWere a_stood a_chosen a_bestChosen a_often a_sorted a_risen a_risenWays o0 z nf lz lb lo ln tz tf oz of fz fn fs sz sn ss pz pa pn qw qb rz rv rw rk wf0 wf1 wf2 wf3 wf4 wf5 wf6 wf7 ro rt rb rd cl cg cw m_thrown_55 m_told m_taped m_at m_to m_many m_readMany m_fewest m_size mr mt mn md mb ms mp mw mo mc me mf mg mi mj ou) H := hP
      have hD : va_D A (lw_St cI cJ cK x0 xn xl xt xo xf xs xp xq xr xc l1 l2 l3 t1 o1 f1 f2 s1 s2 p1 q1 r1 r2 r3 r4 r5 w0 w1 w2 w3 w4 w5 w6 w7 c1 c2 m0 a_row a_tape a_number a_read a_readBits a_stands a_parted a_bitsWere a_stood a_chosen a_bestChosen a_often a_sorted a_risen a_risenWays o0 z nf lz lb lo ln tz tf oz of fz fn fs sz sn ss pz pa pn qw qb rz rv rw rk wf0 wf1 wf2 wf3 wf4 wf5 wf6 wf7 ro rt rb rd cl cg cw m_thrown_55 m_told m_taped m_at m_to m_many m_readMany m_fewest m_size mr mt mn md mb ms mp mw mo mc me mf mg mi mj ou) := hD
      refine lv_icmp_eq (tgt := 1836) hx hb dL_law_1803 (by decide) (fun c1803 => ?_) (fun c1803 => absurd (show nI oz = nI m_told from congrArg nI hrel_o) c1803)
      refine W.widen (k := ce + 6) (n := sl + 6) (show ce + 0 ≤ ce + 6 by omega) (show sl + 0 ≤ sl + 6 by omega) ?_
      exact kk z nf lz lb lo ln tz tf oz of fz fn fs sz sn ss pz pa pn qw qb rz rv rw rk wf0 wf1 wf2 wf3 wf4 wf5 wf6 wf7 ro rt rb rd cl cg cw m_thrown_55 m_told m_taped m_at m_to m_many m_readMany m_fewest m_size mr mt mn md mb ms mp mw mo mc me mf mg mi mj ou hz_z hR_nf hz_lz hR_lo hR_ln hz_tz hR_tf hz_oz hz_fz hz_sz hz_pz hz_pa hR_pn hz_qw hz_rz hz_rv hz_m_told hz_m_taped hz_m_at hz_m_to hz_m_many hz_m_readMany hz_m_size hR_mt hR_mn hR_md hR_mb hR_ms hR_mp hR_mo hR_mg hrel_t (by first | (exfalso; omega) | (rw [kcw, krw, show tz = tz + 4 from (by omega)]; exact sg_tie hrel_x hrel_t.symm) | exact hrel_x.le (by omega)) (by first | assumption | omega | (have h9 := (col_tie hrel_x nf mn).2.1; rw [← hrel_t] at krN; omega) | (have h9 := (pl_tie hrel_x).1; rw [← hrel_t] at krN; omega)) (by first | exact hrel_n | exact nm_put hrel_n kcF krF | exact nm_add hrel_n hrel_z kcF krF (by omega) | exact nm_col hrel_x hrel_t kcN krN kcF krF | exact nm_pl hrel_x hrel_t kcN krN kcF krF | exact nm_cut hrel_n hrel_z (by omega) (by omega) kcF krF | exact nm_swap hrel_n (by omega) (by omega) kcF krF | exact nm_rev hrel_n hrel_z (by omega) kcF krF) (by first | exact hrel_l | exact kcL.1) (by first | exact hrel_lz | exact kcL.2) (by first | assumption | omega) (by first | exact hrel_k | exact fun _ => kcK | exact fun h9 => absurd (by rw [kcS]; rfl) h9) _ _ ls hP hD hS (lv_sub hl [0, 1, 2, 3, 4] rfl)
    ·
      exfalso; omega
    ·
      exfalso; omega
    ·
      exfalso; omega
    ·
      exfalso; omega
  ·
    refine lv_aload_n hx hb dL_law_1793 rfl (lv_at hl 2 rfl) ?_
    refine lv_aload_n hx hb dL_law_1794 rfl (lv_at hl 0 rfl) ?_
    refine lv_iload hx hb dL_law_1795 (lv_at hl 4 rfl) ?_
    refine lv_iconst (v := 1) hx hb dL_law_1797 (by decide +kernel) ?_
    refine lv_iadd hx hb dL_law_1798 ?_
    refine my_eqi (y := nI (i + 1)) (my_addN i 1) ?_
    refine va_sld hx hb hX hbl hbA hS (vp_in_nI (by omega) (by omega)) dL_law_1799 ?_
    refine my_eqi (y := sc (i + 1)) (congrArg sc (nI_clamp (by omega))) ?_
    refine my_goIS (wc := (wl_k_X9_count cI cJ cK m0 a_row a_tape a_number a_read a_readBits a_stands a_parted a_bitsWere a_stood a_chosen a_bestChosen a_often a_sorted a_risen a_risenWays m_thrown (nI m_told) (nI m_taped) (nI m_at) (nI m_to) (nI m_many) (nI m_readMany) m_fewest (nI m_size) mn mf)) hP hD hS hA [37, 40, 49] rfl [none, none, none, none, none, none, none, none, none, none, none, none, none, none, none, none, none, none, none, none, none, none, none, none, none, none, none, none, none, none, none, none, none, none, none, none, none, some 0, none, none, some 1, none, none, none, none, none, none, none, none, some 2] (by decide +kernel) (my_cV (As := [.int (sc (i + 1))]) (rest := [.int (nI t_4)]) (ci := 9) (wc := (wl_k_X9_count cI cJ cK m0 a_row a_tape a_number a_read a_readBits a_stands a_parted a_bitsWere a_stood a_chosen a_bestChosen a_often a_sorted a_risen a_risenWays m_thrown (nI m_told) (nI m_taped) (nI m_at) (nI m_to) (nI m_many) (nI m_readMany) m_fewest (nI m_size) mn mf)) ⟨hx, hb, hml, hown, hts⟩ (cwV 1 hts gL_law_X9_count rfl rfl rfl (by decide +kernel) ⟨Nat.le_of_ble_eq_true rfl, Nat.le_of_ble_eq_true rfl⟩) hN hK hP hD [37, 40, 49] rfl (by decide) rfl 37 rfl rfl rfl rfl hl.1 rfl (Nat.le_of_ble_eq_true rfl) dL_law_1800 ⟨lw_rc (a := ce) (k := 0) (by omega), lw_rs (a := sl) (k := 0) (by omega)⟩  ((k_X9_count l D cI cJ cK m0 a_row a_tape a_number a_read a_readBits a_stands a_parted a_bitsWere a_stood a_chosen a_bestChosen a_often a_sorted a_risen a_risenWays m_thrown m_told m_taped m_at m_to m_many m_readMany m_fewest m_size mn mf (sc (i + 1)) hz_m_told hz_m_taped hz_m_at hz_m_to hz_m_many hz_m_readMany hz_m_size hR_mn) _)) (fun r u H locs hp hPD hS => ?_)
    rcases hp with ⟨m_thrown_71, rfl, rfl, hu1_72⟩ | ⟨m_thrown_73, rfl, rfl, hu1_74⟩ | ⟨m_thrown_75, rfl, rfl, hu1_76⟩ | ⟨t_77, m_thrown_78, mf_79, rfl, rfl, hu1_80, krR⟩ | ⟨t_81, m_thrown_82, mf_83, rfl, rfl, hu1_84, krR⟩ | ⟨t_85, m_thrown_86, mf_87, rfl, rfl, hu1_88, krR⟩ | ⟨m_thrown_89, rfl, rfl, ho_90⟩
    ·
      exfalso; omega
    ·
      exfalso; omega
    ·
      exfalso; omega
    ·
      obtain ⟨hP, hD⟩ := hPD rfl
      have hP : va_P D vwCl (lw_St cI cJ cK x0 xn xl xt xo xf xs xp xq xr xc l1 l2 l3 t1 o1 f1 f2 s1 s2 p1 q1 r1 r2 r3 r4 r5 w0 w1 w2 w3 w4 w5 w6 w7 c1 c2 m0 a_row a_tape a_number a_read a_readBits a_stands a_parted a_bitsWere a_stood a_chosen a_bestChosen a_often a_sorted a_risen a_risenWays o0 z nf lz lb lo ln tz tf oz of fz fn fs sz sn ss pz pa pn qw qb rz rv rw rk wf0 wf1 wf2 wf3 wf4 wf5 wf6 wf7 ro rt rb rd cl cg cw m_thrown_78 m_told m_taped m_at m_to m_many m_readMany m_fewest m_size mr mt mn md mb ms mp mw mo mc me mf_79 mg mi mj ou) H := hP
      have hD : va_D A (lw_St cI cJ cK x0 xn xl xt xo xf xs xp xq xr xc l1 l2 l3 t1 o1 f1 f2 s1 s2 p1 q1 r1 r2 r3 r4 r5 w0 w1 w2 w3 w4 w5 w6 w7 c1 c2 m0 a_row a_tape a_number a_read a_readBits a_stands a_parted a_bitsWere a_stood a_chosen a_bestChosen a_often a_sorted a_risen a_risenWays o0 z nf lz lb lo ln tz tf oz of fz fn fs sz sn ss pz pa pn qw qb rz rv rw rk wf0 wf1 wf2 wf3 wf4 wf5 wf6 wf7 ro rt rb rd cl cg cw m_thrown_78 m_told m_taped m_at m_to m_many m_readMany m_fewest m_size mr mt mn md mb ms mp mw mo mc me mf_79 mg mi mj ou) := hD
      refine lv_icmp_eq (tgt := 1836) hx hb dL_law_1803 (by decide) (fun c1803 => ?_) (fun c1803 => absurd (show nI t_4 = nI t_77 from congrArg nI (by rw [kcR, krR, ← hrel_z, ← cnF_tie hrel_n (Nat.le_refl _)]; exact un_tie hR_nf z)) c1803)
      refine W.widen (k := ce + 6) (n := sl + 6) (show ce + 0 ≤ ce + 6 by omega) (show sl + 0 ≤ sl + 6 by omega) ?_
      exact kk z nf lz lb lo ln tz tf oz of fz fn fs sz sn ss pz pa pn qw qb rz rv rw rk wf0 wf1 wf2 wf3 wf4 wf5 wf6 wf7 ro rt rb rd cl cg cw m_thrown_78 m_told m_taped m_at m_to m_many m_readMany m_fewest m_size mr mt mn md mb ms mp mw mo mc me mf_79 mg mi mj ou hz_z hR_nf hz_lz hR_lo hR_ln hz_tz hR_tf hz_oz hz_fz hz_sz hz_pz hz_pa hR_pn hz_qw hz_rz hz_rv hz_m_told hz_m_taped hz_m_at hz_m_to hz_m_many hz_m_readMany hz_m_size hR_mt hR_mn hR_md hR_mb hR_ms hR_mp hR_mo hR_mg hrel_t (by first | (exfalso; omega) | (rw [kcw, krw, show tz = tz + 4 from (by omega)]; exact sg_tie hrel_x hrel_t.symm) | exact hrel_x.le (by omega)) (by first | assumption | omega | (have h9 := (col_tie hrel_x nf mn).2.1; rw [← hrel_t] at krN; omega) | (have h9 := (pl_tie hrel_x).1; rw [← hrel_t] at krN; omega)) (by first | exact hrel_n | exact nm_put hrel_n kcF krF | exact nm_add hrel_n hrel_z kcF krF (by omega) | exact nm_col hrel_x hrel_t kcN krN kcF krF | exact nm_pl hrel_x hrel_t kcN krN kcF krF | exact nm_cut hrel_n hrel_z (by omega) (by omega) kcF krF | exact nm_swap hrel_n (by omega) (by omega) kcF krF | exact nm_rev hrel_n hrel_z (by omega) kcF krF) (by first | exact hrel_l | exact kcL.1) (by first | exact hrel_lz | exact kcL.2) (by first | assumption | omega) (by first | exact hrel_k | exact fun _ => kcK | exact fun h9 => absurd (by rw [kcS]; rfl) h9) _ _ ls hP hD hS (lv_sub hl [0, 1, 2, 3, 4] rfl)
    ·
      exfalso; omega
    ·
      exfalso; omega
    ·
      exfalso; omega
  ·
    refine lv_aload_n hx hb dL_law_1793 rfl (lv_at hl 2 rfl) ?_
    refine lv_aload_n hx hb dL_law_1794 rfl (lv_at hl 0 rfl) ?_
    refine lv_iload hx hb dL_law_1795 (lv_at hl 4 rfl) ?_
    refine lv_iconst (v := 1) hx hb dL_law_1797 (by decide +kernel) ?_
    refine lv_iadd hx hb dL_law_1798 ?_
    refine my_eqi (y := nI (i + 1)) (my_addN i 1) ?_
    refine va_sld hx hb hX hbl hbA hS (vp_in_nI (by omega) (by omega)) dL_law_1799 ?_
    refine my_eqi (y := sc (i + 1)) (congrArg sc (nI_clamp (by omega))) ?_
    refine my_goIS (wc := (wl_k_X9_count cI cJ cK m0 a_row a_tape a_number a_read a_readBits a_stands a_parted a_bitsWere a_stood a_chosen a_bestChosen a_often a_sorted a_risen a_risenWays m_thrown (nI m_told) (nI m_taped) (nI m_at) (nI m_to) (nI m_many) (nI m_readMany) m_fewest (nI m_size) mn mf)) hP hD hS hA [37, 40, 49] rfl [none, none, none, none, none, none, none, none, none, none, none, none, none, none, none, none, none, none, none, none, none, none, none, none, none, none, none, none, none, none, none, none, none, none, none, none, none, some 0, none, none, some 1, none, none, none, none, none, none, none, none, some 2] (by decide +kernel) (my_cV (As := [.int (sc (i + 1))]) (rest := [.int (nI t_6)]) (ci := 9) (wc := (wl_k_X9_count cI cJ cK m0 a_row a_tape a_number a_read a_readBits a_stands a_parted a_bitsWere a_stood a_chosen a_bestChosen a_often a_sorted a_risen a_risenWays m_thrown (nI m_told) (nI m_taped) (nI m_at) (nI m_to) (nI m_many) (nI m_readMany) m_fewest (nI m_size) mn mf)) ⟨hx, hb, hml, hown, hts⟩ (cwV 1 hts gL_law_X9_count rfl rfl rfl (by decide +kernel) ⟨Nat.le_of_ble_eq_true rfl, Nat.le_of_ble_eq_true rfl⟩) hN hK hP hD [37, 40, 49] rfl (by decide) rfl 37 rfl rfl rfl rfl hl.1 rfl (Nat.le_of_ble_eq_true rfl) dL_law_1800 ⟨lw_rc (a := ce) (k := 0) (by omega), lw_rs (a := sl) (k := 0) (by omega)⟩  ((k_X9_count l D cI cJ cK m0 a_row a_tape a_number a_read a_readBits a_stands a_parted a_bitsWere a_stood a_chosen a_bestChosen a_often a_sorted a_risen a_risenWays m_thrown m_told m_taped m_at m_to m_many m_readMany m_fewest m_size mn mf (sc (i + 1)) hz_m_told hz_m_taped hz_m_at hz_m_to hz_m_many hz_m_readMany hz_m_size hR_mn) _)) (fun r u H locs hp hPD hS => ?_)
    rcases hp with ⟨m_thrown_91, rfl, rfl, hu1_92⟩ | ⟨m_thrown_93, rfl, rfl, hu1_94⟩ | ⟨m_thrown_95, rfl, rfl, hu1_96⟩ | ⟨t_97, m_thrown_98, mf_99, rfl, rfl, hu1_100, krR⟩ | ⟨t_101, m_thrown_102, mf_103, rfl, rfl, hu1_104, krR⟩ | ⟨t_105, m_thrown_106, mf_107, rfl, rfl, hu1_108, krR⟩ | ⟨m_thrown_109, rfl, rfl, ho_110⟩
    ·
      exfalso; omega
    ·
      exfalso; omega
    ·
      exfalso; omega
    ·
      exfalso; omega
    ·
      obtain ⟨hP, hD⟩ := hPD rfl
      have hP : va_P D vwCl (lw_St cI cJ cK x0 xn xl xt xo xf xs xp xq xr xc l1 l2 l3 t1 o1 f1 f2 s1 s2 p1 q1 r1 r2 r3 r4 r5 w0 w1 w2 w3 w4 w5 w6 w7 c1 c2 m0 a_row a_tape a_number a_read a_readBits a_stands a_parted a_bitsWere a_stood a_chosen a_bestChosen a_often a_sorted a_risen a_risenWays o0 z nf lz lb lo ln tz tf oz of fz fn fs sz sn ss pz pa pn qw qb rz rv rw rk wf0 wf1 wf2 wf3 wf4 wf5 wf6 wf7 ro rt rb rd cl cg cw m_thrown_102 m_told m_taped m_at m_to m_many m_readMany m_fewest m_size mr mt mn md mb ms mp mw mo mc me mf_103 mg mi mj ou) H := hP
      have hD : va_D A (lw_St cI cJ cK x0 xn xl xt xo xf xs xp xq xr xc l1 l2 l3 t1 o1 f1 f2 s1 s2 p1 q1 r1 r2 r3 r4 r5 w0 w1 w2 w3 w4 w5 w6 w7 c1 c2 m0 a_row a_tape a_number a_read a_readBits a_stands a_parted a_bitsWere a_stood a_chosen a_bestChosen a_often a_sorted a_risen a_risenWays o0 z nf lz lb lo ln tz tf oz of fz fn fs sz sn ss pz pa pn qw qb rz rv rw rk wf0 wf1 wf2 wf3 wf4 wf5 wf6 wf7 ro rt rb rd cl cg cw m_thrown_102 m_told m_taped m_at m_to m_many m_readMany m_fewest m_size mr mt mn md mb ms mp mw mo mc me mf_103 mg mi mj ou) := hD
      refine lv_icmp_eq (tgt := 1836) hx hb dL_law_1803 (by decide) (fun c1803 => ?_) (fun c1803 => absurd (show nI t_6 = nI t_101 from congrArg nI (by rw [kcR, krR, ← hrel_z]; exact fb_sm_cong (fun j hj => by show (nf j).toInt.toNat = (mn j).toInt.toNat; rw [hrel_n j hj]))) c1803)
      refine W.widen (k := ce + 6) (n := sl + 6) (show ce + 0 ≤ ce + 6 by omega) (show sl + 0 ≤ sl + 6 by omega) ?_
      exact kk z nf lz lb lo ln tz tf oz of fz fn fs sz sn ss pz pa pn qw qb rz rv rw rk wf0 wf1 wf2 wf3 wf4 wf5 wf6 wf7 ro rt rb rd cl cg cw m_thrown_102 m_told m_taped m_at m_to m_many m_readMany m_fewest m_size mr mt mn md mb ms mp mw mo mc me mf_103 mg mi mj ou hz_z hR_nf hz_lz hR_lo hR_ln hz_tz hR_tf hz_oz hz_fz hz_sz hz_pz hz_pa hR_pn hz_qw hz_rz hz_rv hz_m_told hz_m_taped hz_m_at hz_m_to hz_m_many hz_m_readMany hz_m_size hR_mt hR_mn hR_md hR_mb hR_ms hR_mp hR_mo hR_mg hrel_t (by first | (exfalso; omega) | (rw [kcw, krw, show tz = tz + 4 from (by omega)]; exact sg_tie hrel_x hrel_t.symm) | exact hrel_x.le (by omega)) (by first | assumption | omega | (have h9 := (col_tie hrel_x nf mn).2.1; rw [← hrel_t] at krN; omega) | (have h9 := (pl_tie hrel_x).1; rw [← hrel_t] at krN; omega)) (by first | exact hrel_n | exact nm_put hrel_n kcF krF | exact nm_add hrel_n hrel_z kcF krF (by omega) | exact nm_col hrel_x hrel_t kcN krN kcF krF | exact nm_pl hrel_x hrel_t kcN krN kcF krF | exact nm_cut hrel_n hrel_z (by omega) (by omega) kcF krF | exact nm_swap hrel_n (by omega) (by omega) kcF krF | exact nm_rev hrel_n hrel_z (by omega) kcF krF) (by first | exact hrel_l | exact kcL.1) (by first | exact hrel_lz | exact kcL.2) (by first | assumption | omega) (by first | exact hrel_k | exact fun _ => kcK | exact fun h9 => absurd (by rw [kcS]; rfl) h9) _ _ ls hP hD hS (lv_sub hl [0, 1, 2, 3, 4] rfl)
    ·
      exfalso; omega
    ·
      exfalso; omega
  ·
    refine lv_aload_n hx hb dL_law_1793 rfl (lv_at hl 2 rfl) ?_
    refine lv_aload_n hx hb dL_law_1794 rfl (lv_at hl 0 rfl) ?_
    refine lv_iload hx hb dL_law_1795 (lv_at hl 4 rfl) ?_
    refine lv_iconst (v := 1) hx hb dL_law_1797 (by decide +kernel) ?_
    refine lv_iadd hx hb dL_law_1798 ?_
    refine my_eqi (y := nI (i + 1)) (my_addN i 1) ?_
    refine va_sld hx hb hX hbl hbA hS (vp_in_nI (by omega) (by omega)) dL_law_1799 ?_
    refine my_eqi (y := sc (i + 1)) (congrArg sc (nI_clamp (by omega))) ?_
    refine my_goIS (wc := (wl_k_X9_count cI cJ cK m0 a_row a_tape a_number a_read a_readBits a_stands a_parted a_bitsWere a_stood a_chosen a_bestChosen a_often a_sorted a_risen a_risenWays m_thrown (nI m_told) (nI m_taped) (nI m_at) (nI m_to) (nI m_many) (nI m_readMany) m_fewest (nI m_size) mn mf)) hP hD hS hA [37, 40, 49] rfl [none, none, none, none, none, none, none, none, none, none, none, none, none, none, none, none, none, none, none, none, none, none, none, none, none, none, none, none, none, none, none, none, none, none, none, none, none, some 0, none, none, some 1, none, none, none, none, none, none, none, none, some 2] (by decide +kernel) (my_cV (As := [.int (sc (i + 1))]) (rest := [.int (nI t_8)]) (ci := 9) (wc := (wl_k_X9_count cI cJ cK m0 a_row a_tape a_number a_read a_readBits a_stands a_parted a_bitsWere a_stood a_chosen a_bestChosen a_often a_sorted a_risen a_risenWays m_thrown (nI m_told) (nI m_taped) (nI m_at) (nI m_to) (nI m_many) (nI m_readMany) m_fewest (nI m_size) mn mf)) ⟨hx, hb, hml, hown, hts⟩ (cwV 1 hts gL_law_X9_count rfl rfl rfl (by decide +kernel) ⟨Nat.le_of_ble_eq_true rfl, Nat.le_of_ble_eq_true rfl⟩) hN hK hP hD [37, 40, 49] rfl (by decide) rfl 37 rfl rfl rfl rfl hl.1 rfl (Nat.le_of_ble_eq_true rfl) dL_law_1800 ⟨lw_rc (a := ce) (k := 0) (by omega), lw_rs (a := sl) (k := 0) (by omega)⟩  ((k_X9_count l D cI cJ cK m0 a_row a_tape a_number a_read a_readBits a_stands a_parted a_bitsWere a_stood a_chosen a_bestChosen a_often a_sorted a_risen a_risenWays m_thrown m_told m_taped m_at m_to m_many m_readMany m_fewest m_size mn mf (sc (i + 1)) hz_m_told hz_m_taped hz_m_at hz_m_to hz_m_many hz_m_readMany hz_m_size hR_mn) _)) (fun r u H locs hp hPD hS => ?_)
    rcases hp with ⟨m_thrown_111, rfl, rfl, hu1_112⟩ | ⟨m_thrown_113, rfl, rfl, hu1_114⟩ | ⟨m_thrown_115, rfl, rfl, hu1_116⟩ | ⟨t_117, m_thrown_118, mf_119, rfl, rfl, hu1_120, krR⟩ | ⟨t_121, m_thrown_122, mf_123, rfl, rfl, hu1_124, krR⟩ | ⟨t_125, m_thrown_126, mf_127, rfl, rfl, hu1_128, krR⟩ | ⟨m_thrown_129, rfl, rfl, ho_130⟩
    ·
      exfalso; omega
    ·
      exfalso; omega
    ·
      exfalso; omega
    ·
      exfalso; omega
    ·
      exfalso; omega
    ·
      obtain ⟨hP, hD⟩ := hPD rfl
      have hP : va_P D vwCl (lw_St cI cJ cK x0 xn xl xt xo xf xs xp xq xr xc l1 l2 l3 t1 o1 f1 f2 s1 s2 p1 q1 r1 r2 r3 r4 r5 w0 w1 w2 w3 w4 w5 w6 w7 c1 c2 m0 a_row a_tape a_number a_read a_readBits a_stands a_parted a_bitsWere a_stood a_chosen a_bestChosen a_often a_sorted a_risen a_risenWays o0 z nf lz lb lo ln tz tf oz of fz fn fs sz sn ss pz pa pn qw qb rz rv rw rk wf0 wf1 wf2 wf3 wf4 wf5 wf6 wf7 ro rt rb rd cl cg cw m_thrown_126 m_told m_taped m_at m_to m_many m_readMany m_fewest m_size mr mt mn md mb ms mp mw mo mc me mf_127 mg mi mj ou) H := hP
      have hD : va_D A (lw_St cI cJ cK x0 xn xl xt xo xf xs xp xq xr xc l1 l2 l3 t1 o1 f1 f2 s1 s2 p1 q1 r1 r2 r3 r4 r5 w0 w1 w2 w3 w4 w5 w6 w7 c1 c2 m0 a_row a_tape a_number a_read a_readBits a_stands a_parted a_bitsWere a_stood a_chosen a_bestChosen a_often a_sorted a_risen a_risenWays o0 z nf lz lb lo ln tz tf oz of fz fn fs sz sn ss pz pa pn qw qb rz rv rw rk wf0 wf1 wf2 wf3 wf4 wf5 wf6 wf7 ro rt rb rd cl cg cw m_thrown_126 m_told m_taped m_at m_to m_many m_readMany m_fewest m_size mr mt mn md mb ms mp mw mo mc me mf_127 mg mi mj ou) := hD
      refine lv_icmp_eq (tgt := 1836) hx hb dL_law_1803 (by decide) (fun c1803 => ?_) (fun c1803 => absurd (show nI t_8 = nI t_125 from congrArg nI (by rw [kcR, krR, ← hrel_z]; exact fb_sm_cong (fun j hj => by show 8 - za (nf j).toInt.toNat 8 = 8 - za (mn j).toInt.toNat 8; rw [hrel_n j hj]))) c1803)
      refine W.widen (k := ce + 6) (n := sl + 6) (show ce + 0 ≤ ce + 6 by omega) (show sl + 0 ≤ sl + 6 by omega) ?_
      exact kk z nf lz lb lo ln tz tf oz of fz fn fs sz sn ss pz pa pn qw qb rz rv rw rk wf0 wf1 wf2 wf3 wf4 wf5 wf6 wf7 ro rt rb rd cl cg cw m_thrown_126 m_told m_taped m_at m_to m_many m_readMany m_fewest m_size mr mt mn md mb ms mp mw mo mc me mf_127 mg mi mj ou hz_z hR_nf hz_lz hR_lo hR_ln hz_tz hR_tf hz_oz hz_fz hz_sz hz_pz hz_pa hR_pn hz_qw hz_rz hz_rv hz_m_told hz_m_taped hz_m_at hz_m_to hz_m_many hz_m_readMany hz_m_size hR_mt hR_mn hR_md hR_mb hR_ms hR_mp hR_mo hR_mg hrel_t (by first | (exfalso; omega) | (rw [kcw, krw, show tz = tz + 4 from (by omega)]; exact sg_tie hrel_x hrel_t.symm) | exact hrel_x.le (by omega)) (by first | assumption | omega | (have h9 := (col_tie hrel_x nf mn).2.1; rw [← hrel_t] at krN; omega) | (have h9 := (pl_tie hrel_x).1; rw [← hrel_t] at krN; omega)) (by first | exact hrel_n | exact nm_put hrel_n kcF krF | exact nm_add hrel_n hrel_z kcF krF (by omega) | exact nm_col hrel_x hrel_t kcN krN kcF krF | exact nm_pl hrel_x hrel_t kcN krN kcF krF | exact nm_cut hrel_n hrel_z (by omega) (by omega) kcF krF | exact nm_swap hrel_n (by omega) (by omega) kcF krF | exact nm_rev hrel_n hrel_z (by omega) kcF krF) (by first | exact hrel_l | exact kcL.1) (by first | exact hrel_lz | exact kcL.2) (by first | assumption | omega) (by first | exact hrel_k | exact fun _ => kcK | exact fun h9 => absurd (by rw [kcS]; rfl) h9) _ _ ls hP hD hS (lv_sub hl [0, 1, 2, 3, 4] rfl)
    ·
      exfalso; omega
  ·
    refine lv_aload_n hx hb dL_law_1793 rfl (lv_at hl 2 rfl) ?_
    refine lv_aload_n hx hb dL_law_1794 rfl (lv_at hl 0 rfl) ?_
    refine lv_iload hx hb dL_law_1795 (lv_at hl 4 rfl) ?_
    refine lv_iconst (v := 1) hx hb dL_law_1797 (by decide +kernel) ?_
    refine lv_iadd hx hb dL_law_1798 ?_
    refine my_eqi (y := nI (i + 1)) (my_addN i 1) ?_
    refine va_sld hx hb hX hbl hbA hS (vp_in_nI (by omega) (by omega)) dL_law_1799 ?_
    refine my_eqi (y := sc (i + 1)) (congrArg sc (nI_clamp (by omega))) ?_
    refine my_goIS (wc := (wl_k_X9_count cI cJ cK m0 a_row a_tape a_number a_read a_readBits a_stands a_parted a_bitsWere a_stood a_chosen a_bestChosen a_often a_sorted a_risen a_risenWays m_thrown (nI m_told) (nI m_taped) (nI m_at) (nI m_to) (nI m_many) (nI m_readMany) m_fewest (nI m_size) mn mf)) hP hD hS hA [37, 40, 49] rfl [none, none, none, none, none, none, none, none, none, none, none, none, none, none, none, none, none, none, none, none, none, none, none, none, none, none, none, none, none, none, none, none, none, none, none, none, none, some 0, none, none, some 1, none, none, none, none, none, none, none, none, some 2] (by decide +kernel) (my_cV (As := [.int (sc (i + 1))]) (rest := [.int (-1)]) (ci := 9) (wc := (wl_k_X9_count cI cJ cK m0 a_row a_tape a_number a_read a_readBits a_stands a_parted a_bitsWere a_stood a_chosen a_bestChosen a_often a_sorted a_risen a_risenWays m_thrown (nI m_told) (nI m_taped) (nI m_at) (nI m_to) (nI m_many) (nI m_readMany) m_fewest (nI m_size) mn mf)) ⟨hx, hb, hml, hown, hts⟩ (cwV 1 hts gL_law_X9_count rfl rfl rfl (by decide +kernel) ⟨Nat.le_of_ble_eq_true rfl, Nat.le_of_ble_eq_true rfl⟩) hN hK hP hD [37, 40, 49] rfl (by decide) rfl 37 rfl rfl rfl rfl hl.1 rfl (Nat.le_of_ble_eq_true rfl) dL_law_1800 ⟨lw_rc (a := ce) (k := 0) (by omega), lw_rs (a := sl) (k := 0) (by omega)⟩  ((k_X9_count l D cI cJ cK m0 a_row a_tape a_number a_read a_readBits a_stands a_parted a_bitsWere a_stood a_chosen a_bestChosen a_often a_sorted a_risen a_risenWays m_thrown m_told m_taped m_at m_to m_many m_readMany m_fewest m_size mn mf (sc (i + 1)) hz_m_told hz_m_taped hz_m_at hz_m_to hz_m_many hz_m_readMany hz_m_size hR_mn) _)) (fun r u H locs hp hPD hS => ?_)
    rcases hp with ⟨m_thrown_131, rfl, rfl, hu1_132⟩ | ⟨m_thrown_133, rfl, rfl, hu1_134⟩ | ⟨m_thrown_135, rfl, rfl, hu1_136⟩ | ⟨t_137, m_thrown_138, mf_139, rfl, rfl, hu1_140, krR⟩ | ⟨t_141, m_thrown_142, mf_143, rfl, rfl, hu1_144, krR⟩ | ⟨t_145, m_thrown_146, mf_147, rfl, rfl, hu1_148, krR⟩ | ⟨m_thrown_149, rfl, rfl, ho_150⟩
    ·
      exfalso; omega
    ·
      exfalso; omega
    ·
      exfalso; omega
    ·
      exfalso; omega
    ·
      exfalso; omega
    ·
      exfalso; omega
    ·
      obtain ⟨hP, hD⟩ := hPD rfl
      have hP : va_P D vwCl (lw_St cI cJ cK x0 xn xl xt xo xf xs xp xq xr xc l1 l2 l3 t1 o1 f1 f2 s1 s2 p1 q1 r1 r2 r3 r4 r5 w0 w1 w2 w3 w4 w5 w6 w7 c1 c2 m0 a_row a_tape a_number a_read a_readBits a_stands a_parted a_bitsWere a_stood a_chosen a_bestChosen a_often a_sorted a_risen a_risenWays o0 z nf lz lb lo ln tz tf oz of fz fn fs sz sn ss pz pa pn qw qb rz rv rw rk wf0 wf1 wf2 wf3 wf4 wf5 wf6 wf7 ro rt rb rd cl cg cw m_thrown_149 m_told m_taped m_at m_to m_many m_readMany m_fewest m_size mr mt mn md mb ms mp mw mo mc me mf mg mi mj ou) H := hP
      have hD : va_D A (lw_St cI cJ cK x0 xn xl xt xo xf xs xp xq xr xc l1 l2 l3 t1 o1 f1 f2 s1 s2 p1 q1 r1 r2 r3 r4 r5 w0 w1 w2 w3 w4 w5 w6 w7 c1 c2 m0 a_row a_tape a_number a_read a_readBits a_stands a_parted a_bitsWere a_stood a_chosen a_bestChosen a_often a_sorted a_risen a_risenWays o0 z nf lz lb lo ln tz tf oz of fz fn fs sz sn ss pz pa pn qw qb rz rv rw rk wf0 wf1 wf2 wf3 wf4 wf5 wf6 wf7 ro rt rb rd cl cg cw m_thrown_149 m_told m_taped m_at m_to m_many m_readMany m_fewest m_size mr mt mn md mb ms mp mw mo mc me mf mg mi mj ou) := hD
      refine lv_icmp_eq (tgt := 1836) hx hb dL_law_1803 (by decide) (fun c1803 => ?_) (fun c1803 => absurd rfl c1803)
      refine W.widen (k := ce + 6) (n := sl + 6) (show ce + 0 ≤ ce + 6 by omega) (show sl + 0 ≤ sl + 6 by omega) ?_
      exact kk z nf lz lb lo ln tz tf oz of fz fn fs sz sn ss pz pa pn qw qb rz rv rw rk wf0 wf1 wf2 wf3 wf4 wf5 wf6 wf7 ro rt rb rd cl cg cw m_thrown_149 m_told m_taped m_at m_to m_many m_readMany m_fewest m_size mr mt mn md mb ms mp mw mo mc me mf mg mi mj ou hz_z hR_nf hz_lz hR_lo hR_ln hz_tz hR_tf hz_oz hz_fz hz_sz hz_pz hz_pa hR_pn hz_qw hz_rz hz_rv hz_m_told hz_m_taped hz_m_at hz_m_to hz_m_many hz_m_readMany hz_m_size hR_mt hR_mn hR_md hR_mb hR_ms hR_mp hR_mo hR_mg hrel_t (by first | (exfalso; omega) | (rw [kcw, krw, show tz = tz + 4 from (by omega)]; exact sg_tie hrel_x hrel_t.symm) | exact hrel_x.le (by omega)) (by first | assumption | omega | (have h9 := (col_tie hrel_x nf mn).2.1; rw [← hrel_t] at krN; omega) | (have h9 := (pl_tie hrel_x).1; rw [← hrel_t] at krN; omega)) (by first | exact hrel_n | exact nm_put hrel_n kcF krF | exact nm_add hrel_n hrel_z kcF krF (by omega) | exact nm_col hrel_x hrel_t kcN krN kcF krF | exact nm_pl hrel_x hrel_t kcN krN kcF krF | exact nm_cut hrel_n hrel_z (by omega) (by omega) kcF krF | exact nm_swap hrel_n (by omega) (by omega) kcF krF | exact nm_rev hrel_n hrel_z (by omega) kcF krF) (by first | exact hrel_l | exact kcL.1) (by first | exact hrel_lz | exact kcL.2) (by first | assumption | omega) (by first | exact hrel_k | exact fun _ => kcK | exact fun h9 => absurd (by rw [kcS]; rfl) h9) _ _ ls hP hD hS (lv_sub hl [0, 1, 2, 3, 4] rfl)
