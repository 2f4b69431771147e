set_option maxHeartbeats 4000000 in
set_option maxRecDepth 100000 in
/-- the one call of a script of six -/
theorem law_six {p : Program} {l : Launch} {e : Env} {s : State} {m : MethodId} {below : List Frame} {meth : Method} {c : Code} {D : va_G} {cI cJ : ClassId} {b : Nat} {sc : Nat → Int32} (hst : l.stackTraces = false) (C0 : lw_At p s m meth c b 6 sc) (hK : va_K D vwCl (tyIJ cI cJ) s) (hN : nw s) {sa : Nat} {A : Nat → Prop} (hAe : A = fun q : Nat => s.heap.size ≤ q) (hR : xR sa A s) (H : Heap) (locs : List Loc) (ls : Array Slot) (x0 : Nat) (xn : Nat) (xl : Nat) (xt : Nat) (xo : Nat) (xf : Nat) (xs : Nat) (xp : Nat) (xq : Nat) (xr : Nat) (xc : Nat) (l1 : Nat) (l2 : Nat) (l3 : Nat) (t1 : Nat) (o1 : Nat) (f1 : Nat) (f2 : Nat) (s1 : Nat) (s2 : Nat) (p1 : Nat) (q1 : Nat) (r1 : Nat) (r2 : Nat) (r3 : Nat) (r4 : Nat) (r5 : Nat) (c1 : Nat) (c2 : Nat) (m0 : Nat) (a_row : Nat) (a_tape : Nat) (a_number : Nat) (a_read : Nat) (a_readBits : Nat) (a_stands : Nat) (a_parted : Nat) (a_bitsWere : Nat) (a_stood : Nat) (a_chosen : Nat) (a_bestChosen : Nat) (a_often : Nat) (a_sorted : Nat) (a_risen : Nat) (a_risenWays : Nat) (o0 : Nat) (hP : va_P D vwCl [(x0, .inr (8, [.ref xn, .int 0, .ref xl, .ref xt, .ref xo, .ref xf, .ref xs, .ref xp, .ref xq, .ref xr, .ref xc])), (xn, .inl (cI, 64, .inl (fun _ => (0 : Int32)))), (xl, .inr (1, [.ref l1, .ref l2, .ref l3, .int 0])), (l1, .inl (cJ, 8, .inr (.inl (fun _ => (0 : Int64))))), (l2, .inl (cI, 64, .inl (fun _ => (0 : Int32)))), (l3, .inl (cI, 64, .inl (fun _ => (0 : Int32)))), (xt, .inr (5, [.ref t1, .int 0])), (t1, .inl (cI, 100, .inl (fun _ => (0 : Int32)))), (xo, .inr (7, [.ref o1, .int 0])), (o1, .inl (cJ, 64, .inr (.inl (fun _ => (0 : Int64))))), (xf, .inr (6, [.ref f1, .ref f2, .int 0])), (f1, .inl (cI, 512, .inl (fun _ => (0 : Int32)))), (f2, .inl (cI, 64, .inl (fun _ => (0 : Int32)))), (xs, .inr (6, [.ref s1, .ref s2, .int 0])), (s1, .inl (cI, 512, .inl (fun _ => (0 : Int32)))), (s2, .inl (cI, 64, .inl (fun _ => (0 : Int32)))), (xp, .inr (3, [.ref p1, .int 0, .int 0])), (p1, .inl (cI, 64, .inl (fun _ => (0 : Int32)))), (xq, .inr (4, [.ref q1, .int 0])), (q1, .inl (cJ, 8, .inr (.inl (fun _ => (0 : Int64))))), (xr, .inr (2, [.ref r1, .ref r2, .ref r3, .ref r4, .ref r5, .int 0, .int 0, .int 0, .int 0])), (r4, .inl (cI, 8, .inl (fun _ => (0 : Int32)))), (r5, .inl (cI, 8, .inl (fun _ => (0 : Int32)))), (xc, .inr (0, [.ref c1, .ref c2, .int 0])), (c1, .inl (cI, 64, .inl (fun _ => (0 : Int32)))), (c2, .inl (cJ, 64, .inr (.inl (fun _ => (0 : Int64))))), (m0, .inr (9, [.int 0, .int 0, .ref a_row, .ref a_tape, .int 0, .int 0, .int 0, .int 0, .ref a_number, .ref a_read, .int 0, .ref a_readBits, .ref a_stands, .ref a_parted, .ref a_bitsWere, .ref a_stood, .ref a_chosen, .ref a_bestChosen, .int 0, .ref a_often, .ref a_sorted, .int 0, .ref a_risen, .ref a_risenWays])), (a_row, .inl (cJ, 64, .inr (.inl (fun _ => (0 : Int64))))), (a_tape, .inl (cI, 100, .inl (fun _ => (0 : Int32)))), (a_number, .inl (cI, 64, .inl (fun _ => (0 : Int32)))), (a_read, .inl (cI, 64, .inl (fun _ => (0 : Int32)))), (a_readBits, .inl (cI, 88, .inl (fun _ => (0 : Int32)))), (a_stands, .inl (cI, 64, .inl (fun _ => (0 : Int32)))), (a_parted, .inl (cI, 64, .inl (fun _ => (0 : Int32)))), (a_bitsWere, .inl (cI, 512, .inl (fun _ => (0 : Int32)))), (a_stood, .inl (cI, 512, .inl (fun _ => (0 : Int32)))), (a_chosen, .inl (cI, 8, .inl (fun _ => (0 : Int32)))), (a_bestChosen, .inl (cI, 8, .inl (fun _ => (0 : Int32)))), (a_often, .inl (cI, 512, .inl (fun _ => (0 : Int32)))), (a_sorted, .inl (cI, 128, .inl (fun _ => (0 : Int32)))), (a_risen, .inl (cI, 64, .inl (fun _ => (0 : Int32)))), (a_risenWays, .inl (cJ, 64, .inr (.inl (fun _ => (0 : Int64))))), (o0, .inl (cJ, 1, .inr (.inl (fun _ => (0 : Int64)))))] H) (hD : va_D A [(x0, .inr (8, [.ref xn, .int 0, .ref xl, .ref xt, .ref xo, .ref xf, .ref xs, .ref xp, .ref xq, .ref xr, .ref xc])), (xn, .inl (cI, 64, .inl (fun _ => (0 : Int32)))), (xl, .inr (1, [.ref l1, .ref l2, .ref l3, .int 0])), (l1, .inl (cJ, 8, .inr (.inl (fun _ => (0 : Int64))))), (l2, .inl (cI, 64, .inl (fun _ => (0 : Int32)))), (l3, .inl (cI, 64, .inl (fun _ => (0 : Int32)))), (xt, .inr (5, [.ref t1, .int 0])), (t1, .inl (cI, 100, .inl (fun _ => (0 : Int32)))), (xo, .inr (7, [.ref o1, .int 0])), (o1, .inl (cJ, 64, .inr (.inl (fun _ => (0 : Int64))))), (xf, .inr (6, [.ref f1, .ref f2, .int 0])), (f1, .inl (cI, 512, .inl (fun _ => (0 : Int32)))), (f2, .inl (cI, 64, .inl (fun _ => (0 : Int32)))), (xs, .inr (6, [.ref s1, .ref s2, .int 0])), (s1, .inl (cI, 512, .inl (fun _ => (0 : Int32)))), (s2, .inl (cI, 64, .inl (fun _ => (0 : Int32)))), (xp, .inr (3, [.ref p1, .int 0, .int 0])), (p1, .inl (cI, 64, .inl (fun _ => (0 : Int32)))), (xq, .inr (4, [.ref q1, .int 0])), (q1, .inl (cJ, 8, .inr (.inl (fun _ => (0 : Int64))))), (xr, .inr (2, [.ref r1, .ref r2, .ref r3, .ref r4, .ref r5, .int 0, .int 0, .int 0, .int 0])), (r4, .inl (cI, 8, .inl (fun _ => (0 : Int32)))), (r5, .inl (cI, 8, .inl (fun _ => (0 : Int32)))), (xc, .inr (0, [.ref c1, .ref c2, .int 0])), (c1, .inl (cI, 64, .inl (fun _ => (0 : Int32)))), (c2, .inl (cJ, 64, .inr (.inl (fun _ => (0 : Int64))))), (m0, .inr (9, [.int 0, .int 0, .ref a_row, .ref a_tape, .int 0, .int 0, .int 0, .int 0, .ref a_number, .ref a_read, .int 0, .ref a_readBits, .ref a_stands, .ref a_parted, .ref a_bitsWere, .ref a_stood, .ref a_chosen, .ref a_bestChosen, .int 0, .ref a_often, .ref a_sorted, .int 0, .ref a_risen, .ref a_risenWays])), (a_row, .inl (cJ, 64, .inr (.inl (fun _ => (0 : Int64))))), (a_tape, .inl (cI, 100, .inl (fun _ => (0 : Int32)))), (a_number, .inl (cI, 64, .inl (fun _ => (0 : Int32)))), (a_read, .inl (cI, 64, .inl (fun _ => (0 : Int32)))), (a_readBits, .inl (cI, 88, .inl (fun _ => (0 : Int32)))), (a_stands, .inl (cI, 64, .inl (fun _ => (0 : Int32)))), (a_parted, .inl (cI, 64, .inl (fun _ => (0 : Int32)))), (a_bitsWere, .inl (cI, 512, .inl (fun _ => (0 : Int32)))), (a_stood, .inl (cI, 512, .inl (fun _ => (0 : Int32)))), (a_chosen, .inl (cI, 8, .inl (fun _ => (0 : Int32)))), (a_bestChosen, .inl (cI, 8, .inl (fun _ => (0 : Int32)))), (a_often, .inl (cI, 512, .inl (fun _ => (0 : Int32)))), (a_sorted, .inl (cI, 128, .inl (fun _ => (0 : Int32)))), (a_risen, .inl (cI, 64, .inl (fun _ => (0 : Int32)))), (a_risenWays, .inl (cJ, 64, .inr (.inl (fun _ => (0 : Int64))))), (o0, .inl (cJ, 1, .inr (.inl (fun _ => (0 : Int64)))))]) (hS : va_S A s.heap H locs) (hl : lv_has ls 8 [(0, .ref b), (1, .ref x0), (2, .ref m0), (3, .ref o0), (4, .int 0)]) : W p l e room_1 s m #[Value.ref b] below meth c H locs 54 4707 (lw_Z below #[Value.ref b] s) (F0 m 23 ls []) := by
  obtain ⟨hx, hb, hr, hml, hown, hts, hX, hbl, hlocks, hgv⟩ := id C0
  have hts := fun w h => hts w (wsL_law_in w h)
  have hown : s.vm.findClass RL = some m.cls := hown
  have hb : c.code = cL_law := hb
  have hA : ∀ q : Nat, s.heap.size ≤ q → A q := fun q h => by rw [hAe]; exact h
  have hbA : ¬ A b := by rw [hAe]; exact Nat.not_le.mpr hbl
  refine lv_iload hx hb dL_law_23 (lv_at hl 4 rfl) ?_
  refine lv_aload_n hx hb dL_law_25 rfl (lv_at hl 0 rfl) ?_
  refine va_slen hx hb hX hbl hbA hS dL_law_26 ?_
  refine my_eqi (y := 6) rfl ?_
  refine lv_bipush (v := 6) hx hb dL_law_27 (by decide +kernel) ?_
  refine lv_isub hx hb dL_law_29 ?_
  refine my_eqi (y := 0) (by decide +kernel) ?_
  refine lv_icmp_gt (tgt := 1869) hx hb dL_law_30 (by decide) (fun c30 => absurd c30 (by decide +kernel)) (fun c30 => ?_)
  refine lv_aload_n hx hb dL_law_33 rfl (lv_at hl 0 rfl) ?_
  refine lv_iload hx hb dL_law_34 (lv_at hl 4 rfl) ?_
  refine va_sld hx hb hX hbl hbA hS (vp_in_nI (n := 0) (by omega) (by omega)) dL_law_36 ?_
  refine lv_bipush (v := 63) hx hb dL_law_37 (by decide +kernel) ?_
  refine lv_iand hx hb dL_law_39 ?_
  refine lv_topi (fun z ez => ?_)
  by_cases cs : z.toInt < 0 ∨ 40 < z.toInt
  · refine lv_tableOut (tgt := 1863) hx hb dL_law_40 cs (by decide) ?_
    exact law_end C0 hAe hS hl (Nat.le_of_ble_eq_true rfl) (Nat.le_of_ble_eq_true rfl)
  by_cases cv0 : z.toInt = 0
  · refine lv_tableIn (off := 180) (tgt := 220) hx hb dL_law_40 (by omega) (by omega) (by rw [cv0]; rfl) (by decide) ?_
    exact law_case_0 C0 hK hN hAe H locs ls x0 xn xl xt xo xf xs xp xq xr xc l1 l2 l3 t1 o1 f1 f2 s1 s2 p1 q1 r1 r2 r3 r4 r5 c1 c2 m0 a_row a_tape a_number a_read a_readBits a_stands a_parted a_bitsWere a_stood a_chosen a_bestChosen a_often a_sorted a_risen a_risenWays o0 hP hD hS hl
  by_cases cv1 : z.toInt = 1
  · refine lv_tableIn (off := 193) (tgt := 233) hx hb dL_law_40 (by omega) (by omega) (by rw [cv1]; rfl) (by decide) ?_
    exact law_case_1 C0 hK hN hAe H locs ls x0 xn xl xt xo xf xs xp xq xr xc l1 l2 l3 t1 o1 f1 f2 s1 s2 p1 q1 r1 r2 r3 r4 r5 c1 c2 m0 a_row a_tape a_number a_read a_readBits a_stands a_parted a_bitsWere a_stood a_chosen a_bestChosen a_often a_sorted a_risen a_risenWays o0 hP hD hS hl
  by_cases cv2 : z.toInt = 2
  · refine lv_tableIn (off := 206) (tgt := 246) hx hb dL_law_40 (by omega) (by omega) (by rw [cv2]; rfl) (by decide) ?_
    exact law_case_2 C0 hK hN hAe H locs ls x0 xn xl xt xo xf xs xp xq xr xc l1 l2 l3 t1 o1 f1 f2 s1 s2 p1 q1 r1 r2 r3 r4 r5 c1 c2 m0 a_row a_tape a_number a_read a_readBits a_stands a_parted a_bitsWere a_stood a_chosen a_bestChosen a_often a_sorted a_risen a_risenWays o0 hP hD hS hl
  by_cases cv3 : z.toInt = 3
  · refine lv_tableIn (off := 231) (tgt := 271) hx hb dL_law_40 (by omega) (by omega) (by rw [cv3]; rfl) (by decide) ?_
    exact law_case_3 C0 hK hN hAe H locs ls x0 xn xl xt xo xf xs xp xq xr xc l1 l2 l3 t1 o1 f1 f2 s1 s2 p1 q1 r1 r2 r3 r4 r5 c1 c2 m0 a_row a_tape a_number a_read a_readBits a_stands a_parted a_bitsWere a_stood a_chosen a_bestChosen a_often a_sorted a_risen a_risenWays o0 hP hD hS hl
  by_cases cv4 : z.toInt = 4
  · refine lv_tableIn (off := 268) (tgt := 308) hx hb dL_law_40 (by omega) (by omega) (by rw [cv4]; rfl) (by decide) ?_
    exact law_case_4 C0 hK hN hAe H locs ls x0 xn xl xt xo xf xs xp xq xr xc l1 l2 l3 t1 o1 f1 f2 s1 s2 p1 q1 r1 r2 r3 r4 r5 c1 c2 m0 a_row a_tape a_number a_read a_readBits a_stands a_parted a_bitsWere a_stood a_chosen a_bestChosen a_often a_sorted a_risen a_risenWays o0 hP hD hS hl
  by_cases cv5 : z.toInt = 5
  · refine lv_tableIn (off := 293) (tgt := 333) hx hb dL_law_40 (by omega) (by omega) (by rw [cv5]; rfl) (by decide) ?_
    exact law_case_5 C0 hK hN hAe H locs ls x0 xn xl xt xo xf xs xp xq xr xc l1 l2 l3 t1 o1 f1 f2 s1 s2 p1 q1 r1 r2 r3 r4 r5 c1 c2 m0 a_row a_tape a_number a_read a_readBits a_stands a_parted a_bitsWere a_stood a_chosen a_bestChosen a_often a_sorted a_risen a_risenWays o0 hP hD hS hl
  by_cases cv6 : z.toInt = 6
  · refine lv_tableIn (off := 330) (tgt := 370) hx hb dL_law_40 (by omega) (by omega) (by rw [cv6]; rfl) (by decide) ?_
    exact law_case_6 C0 hK hN hAe H locs ls x0 xn xl xt xo xf xs xp xq xr xc l1 l2 l3 t1 o1 f1 f2 s1 s2 p1 q1 r1 r2 r3 r4 r5 c1 c2 m0 a_row a_tape a_number a_read a_readBits a_stands a_parted a_bitsWere a_stood a_chosen a_bestChosen a_often a_sorted a_risen a_risenWays o0 hP hD hS hl
  by_cases cv7 : z.toInt = 7
  · refine lv_tableIn (off := 367) (tgt := 407) hx hb dL_law_40 (by omega) (by omega) (by rw [cv7]; rfl) (by decide) ?_
    exact law_case_7 C0 hK hN hAe H locs ls x0 xn xl xt xo xf xs xp xq xr xc l1 l2 l3 t1 o1 f1 f2 s1 s2 p1 q1 r1 r2 r3 r4 r5 c1 c2 m0 a_row a_tape a_number a_read a_readBits a_stands a_parted a_bitsWere a_stood a_chosen a_bestChosen a_often a_sorted a_risen a_risenWays o0 hP hD hS hl
  by_cases cv8 : z.toInt = 8
  · refine lv_tableIn (off := 392) (tgt := 432) hx hb dL_law_40 (by omega) (by omega) (by rw [cv8]; rfl) (by decide) ?_
    exact law_case_8 C0 hK hN hAe H locs ls x0 xn xl xt xo xf xs xp xq xr xc l1 l2 l3 t1 o1 f1 f2 s1 s2 p1 q1 r1 r2 r3 r4 r5 c1 c2 m0 a_row a_tape a_number a_read a_readBits a_stands a_parted a_bitsWere a_stood a_chosen a_bestChosen a_often a_sorted a_risen a_risenWays o0 hP hD hS hl
  by_cases cv9 : z.toInt = 9
  · refine lv_tableIn (off := 417) (tgt := 457) hx hb dL_law_40 (by omega) (by omega) (by rw [cv9]; rfl) (by decide) ?_
    exact law_case_9 C0 hK hN hAe H locs ls x0 xn xl xt xo xf xs xp xq xr xc l1 l2 l3 t1 o1 f1 f2 s1 s2 p1 q1 r1 r2 r3 r4 r5 c1 c2 m0 a_row a_tape a_number a_read a_readBits a_stands a_parted a_bitsWere a_stood a_chosen a_bestChosen a_often a_sorted a_risen a_risenWays o0 hP hD hS hl
  by_cases cv10 : z.toInt = 10
  · refine lv_tableIn (off := 442) (tgt := 482) hx hb dL_law_40 (by omega) (by omega) (by rw [cv10]; rfl) (by decide) ?_
    exact law_case_10 C0 hK hN hAe H locs ls x0 xn xl xt xo xf xs xp xq xr xc l1 l2 l3 t1 o1 f1 f2 s1 s2 p1 q1 r1 r2 r3 r4 r5 c1 c2 m0 a_row a_tape a_number a_read a_readBits a_stands a_parted a_bitsWere a_stood a_chosen a_bestChosen a_often a_sorted a_risen a_risenWays o0 hP hD hS hl
  by_cases cv11 : z.toInt = 11
  · refine lv_tableIn (off := 479) (tgt := 519) hx hb dL_law_40 (by omega) (by omega) (by rw [cv11]; rfl) (by decide) ?_
    exact law_case_11 C0 hK hN hAe H locs ls x0 xn xl xt xo xf xs xp xq xr xc l1 l2 l3 t1 o1 f1 f2 s1 s2 p1 q1 r1 r2 r3 r4 r5 c1 c2 m0 a_row a_tape a_number a_read a_readBits a_stands a_parted a_bitsWere a_stood a_chosen a_bestChosen a_often a_sorted a_risen a_risenWays o0 hP hD hS hl
  by_cases cv12 : z.toInt = 12
  · refine lv_tableIn (off := 516) (tgt := 556) hx hb dL_law_40 (by omega) (by omega) (by rw [cv12]; rfl) (by decide) ?_
    exact law_case_12 C0 hK hN hAe H locs ls x0 xn xl xt xo xf xs xp xq xr xc l1 l2 l3 t1 o1 f1 f2 s1 s2 p1 q1 r1 r2 r3 r4 r5 c1 c2 m0 a_row a_tape a_number a_read a_readBits a_stands a_parted a_bitsWere a_stood a_chosen a_bestChosen a_often a_sorted a_risen a_risenWays o0 hP hD hS hl
  by_cases cv13 : z.toInt = 13
  · refine lv_tableIn (off := 529) (tgt := 569) hx hb dL_law_40 (by omega) (by omega) (by rw [cv13]; rfl) (by decide) ?_
    exact law_case_13 C0 hK hN hAe H locs ls x0 xn xl xt xo xf xs xp xq xr xc l1 l2 l3 t1 o1 f1 f2 s1 s2 p1 q1 r1 r2 r3 r4 r5 c1 c2 m0 a_row a_tape a_number a_read a_readBits a_stands a_parted a_bitsWere a_stood a_chosen a_bestChosen a_often a_sorted a_risen a_risenWays o0 hP hD hS hl
  by_cases cv14 : z.toInt = 14
  · refine lv_tableIn (off := 542) (tgt := 582) hx hb dL_law_40 (by omega) (by omega) (by rw [cv14]; rfl) (by decide) ?_
    exact law_case_14 C0 hK hN hAe H locs ls x0 xn xl xt xo xf xs xp xq xr xc l1 l2 l3 t1 o1 f1 f2 s1 s2 p1 q1 r1 r2 r3 r4 r5 c1 c2 m0 a_row a_tape a_number a_read a_readBits a_stands a_parted a_bitsWere a_stood a_chosen a_bestChosen a_often a_sorted a_risen a_risenWays o0 hP hD hS hl
  by_cases cv15 : z.toInt = 15
  · refine lv_tableIn (off := 591) (tgt := 631) hx hb dL_law_40 (by omega) (by omega) (by rw [cv15]; rfl) (by decide) ?_
    exact law_case_15 C0 hK hN hAe H locs ls x0 xn xl xt xo xf xs xp xq xr xc l1 l2 l3 t1 o1 f1 f2 s1 s2 p1 q1 r1 r2 r3 r4 r5 c1 c2 m0 a_row a_tape a_number a_read a_readBits a_stands a_parted a_bitsWere a_stood a_chosen a_bestChosen a_often a_sorted a_risen a_risenWays o0 hP hD hS hl
  by_cases cv16 : z.toInt = 16
  · refine lv_tableIn (off := 628) (tgt := 668) hx hb dL_law_40 (by omega) (by omega) (by rw [cv16]; rfl) (by decide) ?_
    exact law_case_16 C0 hK hN hAe H locs ls x0 xn xl xt xo xf xs xp xq xr xc l1 l2 l3 t1 o1 f1 f2 s1 s2 p1 q1 r1 r2 r3 r4 r5 c1 c2 m0 a_row a_tape a_number a_read a_readBits a_stands a_parted a_bitsWere a_stood a_chosen a_bestChosen a_often a_sorted a_risen a_risenWays o0 hP hD hS hl
  by_cases cv17 : z.toInt = 17
  · refine lv_tableIn (off := 665) (tgt := 705) hx hb dL_law_40 (by omega) (by omega) (by rw [cv17]; rfl) (by decide) ?_
    exact law_case_17 C0 hK hN hAe H locs ls x0 xn xl xt xo xf xs xp xq xr xc l1 l2 l3 t1 o1 f1 f2 s1 s2 p1 q1 r1 r2 r3 r4 r5 c1 c2 m0 a_row a_tape a_number a_read a_readBits a_stands a_parted a_bitsWere a_stood a_chosen a_bestChosen a_often a_sorted a_risen a_risenWays o0 hP hD hS hl
  by_cases cv18 : z.toInt = 18
  · refine lv_tableIn (off := 726) (tgt := 766) hx hb dL_law_40 (by omega) (by omega) (by rw [cv18]; rfl) (by decide) ?_
    exact law_case_18 C0 hK hN hAe H locs ls x0 xn xl xt xo xf xs xp xq xr xc l1 l2 l3 t1 o1 f1 f2 s1 s2 p1 q1 r1 r2 r3 r4 r5 c1 c2 m0 a_row a_tape a_number a_read a_readBits a_stands a_parted a_bitsWere a_stood a_chosen a_bestChosen a_often a_sorted a_risen a_risenWays o0 hP hD hS hl
  by_cases cv19 : z.toInt = 19
  · refine lv_tableIn (off := 775) (tgt := 815) hx hb dL_law_40 (by omega) (by omega) (by rw [cv19]; rfl) (by decide) ?_
    exact law_case_19 C0 hK hN hAe H locs ls x0 xn xl xt xo xf xs xp xq xr xc l1 l2 l3 t1 o1 f1 f2 s1 s2 p1 q1 r1 r2 r3 r4 r5 c1 c2 m0 a_row a_tape a_number a_read a_readBits a_stands a_parted a_bitsWere a_stood a_chosen a_bestChosen a_often a_sorted a_risen a_risenWays o0 hP hD hS hl
  by_cases cv20 : z.toInt = 20
  · refine lv_tableIn (off := 824) (tgt := 864) hx hb dL_law_40 (by omega) (by omega) (by rw [cv20]; rfl) (by decide) ?_
    exact law_case_20 C0 hK hN hAe H locs ls x0 xn xl xt xo xf xs xp xq xr xc l1 l2 l3 t1 o1 f1 f2 s1 s2 p1 q1 r1 r2 r3 r4 r5 c1 c2 m0 a_row a_tape a_number a_read a_readBits a_stands a_parted a_bitsWere a_stood a_chosen a_bestChosen a_often a_sorted a_risen a_risenWays o0 hP hD hS hl
  by_cases cv21 : z.toInt = 21
  · refine lv_tableIn (off := 873) (tgt := 913) hx hb dL_law_40 (by omega) (by omega) (by rw [cv21]; rfl) (by decide) ?_
    exact law_case_21 C0 hK hN hAe H locs ls x0 xn xl xt xo xf xs xp xq xr xc l1 l2 l3 t1 o1 f1 f2 s1 s2 p1 q1 r1 r2 r3 r4 r5 c1 c2 m0 a_row a_tape a_number a_read a_readBits a_stands a_parted a_bitsWere a_stood a_chosen a_bestChosen a_often a_sorted a_risen a_risenWays o0 hP hD hS hl
  by_cases cv22 : z.toInt = 22
  · refine lv_tableIn (off := 922) (tgt := 962) hx hb dL_law_40 (by omega) (by omega) (by rw [cv22]; rfl) (by decide) ?_
    exact law_case_22 C0 hK hN hAe H locs ls x0 xn xl xt xo xf xs xp xq xr xc l1 l2 l3 t1 o1 f1 f2 s1 s2 p1 q1 r1 r2 r3 r4 r5 c1 c2 m0 a_row a_tape a_number a_read a_readBits a_stands a_parted a_bitsWere a_stood a_chosen a_bestChosen a_often a_sorted a_risen a_risenWays o0 hP hD hS hl
  by_cases cv23 : z.toInt = 23
  · refine lv_tableIn (off := 959) (tgt := 999) hx hb dL_law_40 (by omega) (by omega) (by rw [cv23]; rfl) (by decide) ?_
    exact law_case_23 C0 hK hN hAe H locs ls x0 xn xl xt xo xf xs xp xq xr xc l1 l2 l3 t1 o1 f1 f2 s1 s2 p1 q1 r1 r2 r3 r4 r5 c1 c2 m0 a_row a_tape a_number a_read a_readBits a_stands a_parted a_bitsWere a_stood a_chosen a_bestChosen a_often a_sorted a_risen a_risenWays o0 hP hD hS hl
  by_cases cv24 : z.toInt = 24
  · refine lv_tableIn (off := 1020) (tgt := 1060) hx hb dL_law_40 (by omega) (by omega) (by rw [cv24]; rfl) (by decide) ?_
    exact law_case_24 C0 hK hN hAe H locs ls x0 xn xl xt xo xf xs xp xq xr xc l1 l2 l3 t1 o1 f1 f2 s1 s2 p1 q1 r1 r2 r3 r4 r5 c1 c2 m0 a_row a_tape a_number a_read a_readBits a_stands a_parted a_bitsWere a_stood a_chosen a_bestChosen a_often a_sorted a_risen a_risenWays o0 hP hD hS hl
  by_cases cv25 : z.toInt = 25
  · refine lv_tableIn (off := 1057) (tgt := 1097) hx hb dL_law_40 (by omega) (by omega) (by rw [cv25]; rfl) (by decide) ?_
    exact law_case_25 C0 hK hN hAe H locs ls x0 xn xl xt xo xf xs xp xq xr xc l1 l2 l3 t1 o1 f1 f2 s1 s2 p1 q1 r1 r2 r3 r4 r5 c1 c2 m0 a_row a_tape a_number a_read a_readBits a_stands a_parted a_bitsWere a_stood a_chosen a_bestChosen a_often a_sorted a_risen a_risenWays o0 hP hD hS hl
  by_cases cv26 : z.toInt = 26
  · refine lv_tableIn (off := 1106) (tgt := 1146) hx hb dL_law_40 (by omega) (by omega) (by rw [cv26]; rfl) (by decide) ?_
    exact law_case_26 C0 hK hN hAe H locs ls x0 xn xl xt xo xf xs xp xq xr xc l1 l2 l3 t1 o1 f1 f2 s1 s2 p1 q1 r1 r2 r3 r4 r5 c1 c2 m0 a_row a_tape a_number a_read a_readBits a_stands a_parted a_bitsWere a_stood a_chosen a_bestChosen a_often a_sorted a_risen a_risenWays o0 hP hD hS hl
  by_cases cv27 : z.toInt = 27
  · refine lv_tableIn (off := 1143) (tgt := 1183) hx hb dL_law_40 (by omega) (by omega) (by rw [cv27]; rfl) (by decide) ?_
    exact law_case_27 C0 hK hN hAe H locs ls x0 xn xl xt xo xf xs xp xq xr xc l1 l2 l3 t1 o1 f1 f2 s1 s2 p1 q1 r1 r2 r3 r4 r5 c1 c2 m0 a_row a_tape a_number a_read a_readBits a_stands a_parted a_bitsWere a_stood a_chosen a_bestChosen a_often a_sorted a_risen a_risenWays o0 hP hD hS hl
  by_cases cv28 : z.toInt = 28
  · refine lv_tableIn (off := 1192) (tgt := 1232) hx hb dL_law_40 (by omega) (by omega) (by rw [cv28]; rfl) (by decide) ?_
    exact law_case_28 C0 hK hN hAe H locs ls x0 xn xl xt xo xf xs xp xq xr xc l1 l2 l3 t1 o1 f1 f2 s1 s2 p1 q1 r1 r2 r3 r4 r5 c1 c2 m0 a_row a_tape a_number a_read a_readBits a_stands a_parted a_bitsWere a_stood a_chosen a_bestChosen a_often a_sorted a_risen a_risenWays o0 hP hD hS hl
  by_cases cv29 : z.toInt = 29
  · refine lv_tableIn (off := 1241) (tgt := 1281) hx hb dL_law_40 (by omega) (by omega) (by rw [cv29]; rfl) (by decide) ?_
    exact law_case_29 C0 hK hN hAe H locs ls x0 xn xl xt xo xf xs xp xq xr xc l1 l2 l3 t1 o1 f1 f2 s1 s2 p1 q1 r1 r2 r3 r4 r5 c1 c2 m0 a_row a_tape a_number a_read a_readBits a_stands a_parted a_bitsWere a_stood a_chosen a_bestChosen a_often a_sorted a_risen a_risenWays o0 hP hD hS hl
  by_cases cv30 : z.toInt = 30
  · refine lv_tableIn (off := 1290) (tgt := 1330) hx hb dL_law_40 (by omega) (by omega) (by rw [cv30]; rfl) (by decide) ?_
    exact law_case_30 C0 hK hN hAe H locs ls x0 xn xl xt xo xf xs xp xq xr xc l1 l2 l3 t1 o1 f1 f2 s1 s2 p1 q1 r1 r2 r3 r4 r5 c1 c2 m0 a_row a_tape a_number a_read a_readBits a_stands a_parted a_bitsWere a_stood a_chosen a_bestChosen a_often a_sorted a_risen a_risenWays o0 hP hD hS hl
  by_cases cv31 : z.toInt = 31
  · refine lv_tableIn (off := 1327) (tgt := 1367) hx hb dL_law_40 (by omega) (by omega) (by rw [cv31]; rfl) (by decide) ?_
    exact law_case_31 C0 hK hN hAe H locs ls x0 xn xl xt xo xf xs xp xq xr xc l1 l2 l3 t1 o1 f1 f2 s1 s2 p1 q1 r1 r2 r3 r4 r5 c1 c2 m0 a_row a_tape a_number a_read a_readBits a_stands a_parted a_bitsWere a_stood a_chosen a_bestChosen a_often a_sorted a_risen a_risenWays o0 hP hD hS hl
  by_cases cv32 : z.toInt = 32
  · refine lv_tableIn (off := 1364) (tgt := 1404) hx hb dL_law_40 (by omega) (by omega) (by rw [cv32]; rfl) (by decide) ?_
    exact law_case_32 C0 hK hN hAe H locs ls x0 xn xl xt xo xf xs xp xq xr xc l1 l2 l3 t1 o1 f1 f2 s1 s2 p1 q1 r1 r2 r3 r4 r5 c1 c2 m0 a_row a_tape a_number a_read a_readBits a_stands a_parted a_bitsWere a_stood a_chosen a_bestChosen a_often a_sorted a_risen a_risenWays o0 hP hD hS hl
  by_cases cv33 : z.toInt = 33
  · refine lv_tableIn (off := 1401) (tgt := 1441) hx hb dL_law_40 (by omega) (by omega) (by rw [cv33]; rfl) (by decide) ?_
    exact law_case_33 C0 hK hN hAe H locs ls x0 xn xl xt xo xf xs xp xq xr xc l1 l2 l3 t1 o1 f1 f2 s1 s2 p1 q1 r1 r2 r3 r4 r5 c1 c2 m0 a_row a_tape a_number a_read a_readBits a_stands a_parted a_bitsWere a_stood a_chosen a_bestChosen a_often a_sorted a_risen a_risenWays o0 hP hD hS hl
  by_cases cv34 : z.toInt = 34
  · refine lv_tableIn (off := 1438) (tgt := 1478) hx hb dL_law_40 (by omega) (by omega) (by rw [cv34]; rfl) (by decide) ?_
    exact law_case_34 C0 hK hN hAe H locs ls x0 xn xl xt xo xf xs xp xq xr xc l1 l2 l3 t1 o1 f1 f2 s1 s2 p1 q1 r1 r2 r3 r4 r5 c1 c2 m0 a_row a_tape a_number a_read a_readBits a_stands a_parted a_bitsWere a_stood a_chosen a_bestChosen a_often a_sorted a_risen a_risenWays o0 hP hD hS hl
  by_cases cv35 : z.toInt = 35
  · refine lv_tableIn (off := 1487) (tgt := 1527) hx hb dL_law_40 (by omega) (by omega) (by rw [cv35]; rfl) (by decide) ?_
    exact law_case_35 C0 hK hN hAe H locs ls x0 xn xl xt xo xf xs xp xq xr xc l1 l2 l3 t1 o1 f1 f2 s1 s2 p1 q1 r1 r2 r3 r4 r5 c1 c2 m0 a_row a_tape a_number a_read a_readBits a_stands a_parted a_bitsWere a_stood a_chosen a_bestChosen a_often a_sorted a_risen a_risenWays o0 hP hD hS hl
  by_cases cv36 : z.toInt = 36
  · refine lv_tableIn (off := 1548) (tgt := 1588) hx hb dL_law_40 (by omega) (by omega) (by rw [cv36]; rfl) (by decide) ?_
    exact law_case_36 C0 hK hN hAe H locs ls x0 xn xl xt xo xf xs xp xq xr xc l1 l2 l3 t1 o1 f1 f2 s1 s2 p1 q1 r1 r2 r3 r4 r5 c1 c2 m0 a_row a_tape a_number a_read a_readBits a_stands a_parted a_bitsWere a_stood a_chosen a_bestChosen a_often a_sorted a_risen a_risenWays o0 hP hD hS hl
  by_cases cv37 : z.toInt = 37
  · refine lv_tableIn (off := 1609) (tgt := 1649) hx hb dL_law_40 (by omega) (by omega) (by rw [cv37]; rfl) (by decide) ?_
    exact law_case_37 C0 hK hN hAe H locs ls x0 xn xl xt xo xf xs xp xq xr xc l1 l2 l3 t1 o1 f1 f2 s1 s2 p1 q1 r1 r2 r3 r4 r5 c1 c2 m0 a_row a_tape a_number a_read a_readBits a_stands a_parted a_bitsWere a_stood a_chosen a_bestChosen a_often a_sorted a_risen a_risenWays o0 hP hD hS hl
  by_cases cv38 : z.toInt = 38
  · refine lv_tableIn (off := 1682) (tgt := 1722) hx hb dL_law_40 (by omega) (by omega) (by rw [cv38]; rfl) (by decide) ?_
    exact law_case_38 C0 hK hN hAe H locs ls x0 xn xl xt xo xf xs xp xq xr xc l1 l2 l3 t1 o1 f1 f2 s1 s2 p1 q1 r1 r2 r3 r4 r5 c1 c2 m0 a_row a_tape a_number a_read a_readBits a_stands a_parted a_bitsWere a_stood a_chosen a_bestChosen a_often a_sorted a_risen a_risenWays o0 hP hD hS hl
  by_cases cv39 : z.toInt = 39
  · refine lv_tableIn (off := 1743) (tgt := 1783) hx hb dL_law_40 (by omega) (by omega) (by rw [cv39]; rfl) (by decide) ?_
    exact law_case_39 C0 hK hN hAe H locs ls x0 xn xl xt xo xf xs xp xq xr xc l1 l2 l3 t1 o1 f1 f2 s1 s2 p1 q1 r1 r2 r3 r4 r5 c1 c2 m0 a_row a_tape a_number a_read a_readBits a_stands a_parted a_bitsWere a_stood a_chosen a_bestChosen a_often a_sorted a_risen a_risenWays o0 hP hD hS hl
  have cv40 : z.toInt = 40 := by omega
  refine lv_tableIn (off := 1768) (tgt := 1808) hx hb dL_law_40 (by omega) (by omega) (by rw [cv40]; rfl) (by decide) ?_
  exact law_case_40 C0 hK hN hst hAe hR H locs ls x0 xn xl xt xo xf xs xp xq xr xc l1 l2 l3 t1 o1 f1 f2 s1 s2 p1 q1 r1 r2 r3 r4 r5 c1 c2 m0 a_row a_tape a_number a_read a_readBits a_stands a_parted a_bitsWere a_stood a_chosen a_bestChosen a_often a_sorted a_risen a_risenWays o0 hP hD hS hl
