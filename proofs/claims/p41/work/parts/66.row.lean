/-! row(i) on a new object: the class throws, the law's own helper catches it -/
section ROWX
/-- what the throw needs beside the cells: its text, two statics of Throwable -/
def nx_B : List Cond := [.castable "java/util/NoSuchElementException" "java/util/NoSuchElementException", .declares (Bundle.initS "java/lang/RuntimeException"), .declares (Bundle.initS "java/lang/Exception"), .declares (Bundle.initS Bundle.tN)]
/-- words that no list of words may bear: kept beside the cells -/
def nx_W (U : State) : Prop := va_Nw (.castable "java/util/NoSuchElementException" "java/util/NoSuchElementException") U ∧ va_Nw (.declares (Bundle.initS "java/lang/RuntimeException")) U ∧ va_Nw (.declares (Bundle.initS "java/lang/Exception")) U ∧ va_Nw (.declares (Bundle.initS Bundle.tN)) U
theorem nx_W.warm {s U : State} (hW : s.WarmedH U.vm) (h : nx_W s) : nx_W U := ⟨va_Nw.warmC hW h.1, va_Nw.warmD hW h.2.1, va_Nw.warmD hW h.2.2.1, va_Nw.warmD hW h.2.2.2⟩
theorem nx_W.same {u U : State} (e : u.vm = U.vm) (h : nx_W u) : nx_W U := ⟨va_Nw.same rfl e h.1, va_Nw.same rfl e h.2.1, va_Nw.same rfl e h.2.2.1, va_Nw.same rfl e h.2.2.2⟩
theorem nx_W.use {U : State} {A : Array Value} (h : nx_W U) : ∀ w ∈ nx_B, w.before A U = true := vx_c (va_Nw.use rfl h.1) (vx_c (va_Nw.use rfl h.2.1) (vx_c (va_Nw.use rfl h.2.2.1) (vx_c (va_Nw.use rfl h.2.2.2) vx_n)))
theorem nx_hat {args : Array Value} {U : State} (h : nx_W U) (h1 : ∀ w ∈ nx_at.filter goodWord, w.before args U = true) : ∀ w ∈ nx_at, w.before args U = true := vx_hat h1 (B := nx_B) (by decide +kernel) h.use
def xR (sa : Nat) (A : Nat → Prop) (U : State) : Prop := vk_R RX8 249 "the ROW has no such number" sa U ∧ vx_Zq Bundle.tN "UNASSIGNED_STACK" Bundle.steD A U U.heap ∧ vx_Zq Bundle.tN "SUPPRESSED_SENTINEL" Bundle.listD A U U.heap ∧ nx_W U
theorem xR.kept {sa : Nat} {A B : Nat → Prop} {s U : State} {H : Heap} {locs : List Loc} (h : xR sa A s) (hS : va_S A s.heap H locs) (hU : U.heap = H) (hW : s.WarmedH U.vm) (hAB : ∀ q, B q → A q) : xR sa B U := by
  refine ⟨vk_R.warm hW h.1, ?_, ?_, nx_W.warm hW h.2.2.2⟩
  · rw [hU]; exact ((h.2.1.kept (fun a h1 h2 => hS.2.1 a h1 h2)).narrow hAB).moved hW.alike
  · rw [hU]; exact ((h.2.2.1.kept (fun a h1 h2 => hS.2.1 a h1 h2)).narrow hAB).moved hW.alike
theorem xR.same {sa : Nat} {A : Nat → Prop} {U : State} {g : JFrame} {mk : MethodId} {a : Array Value} (h : xR sa A U) : xR sa A (U.calling g mk a) :=
  ⟨vk_R.same (u := U) (U := U.calling g mk a) rfl h.1, vx_Zq.moved (u := U) (U := U.calling g mk a) (Vm.Alike.refl U.vm) h.2.1, vx_Zq.moved (u := U) (U := U.calling g mk a) (Vm.Alike.refl U.vm) h.2.2.1, nx_W.same (u := U) (U := U.calling g mk a) rfl h.2.2.2⟩
def rowPc (D : va_G) (tys : List (ClassId × FieldType)) (pre : va_W) (sa sz : Nat) : State → Prop := fun U => my_PC D tys pre sz U ∧ xR sa (va_A pre sz) U
theorem rowPc.blind {D : va_G} {tys : List (ClassId × FieldType)} {pre : va_W} {sa sz : Nat} {av : List Value} : FrameBlind (va_Pc av (rowPc D tys pre sa sz)) := fun a U g mk q =>
  ⟨(my_blind (D := D) (tys := tys) (pre := pre) (sz := sz) (av := av) a U g mk ⟨q.1, q.2.1⟩).1, (my_blind (D := D) (tys := tys) (pre := pre) (sz := sz) (av := av) a U g mk ⟨q.1, q.2.1⟩).2, xR.same q.2.2⟩

set_option maxHeartbeats 4000000 in
set_option maxRecDepth 100000 in
/-- row(i): number i of the ROW, or the throw -/
theorem k_X8_row (l : Launch) (hst : l.stackTraces = false) (D : va_G) (cI cJ cK : ClassId) (x0 : Nat) (xn : Nat) (xl : Nat) (xt : Nat) (xo : Nat) (xf : Nat) (xs : Nat) (xp : Nat) (xq : Nat) (xr : Nat) (xc : Nat) (o1 : Nat) (z : Nat) (oz : Nat) (of : Nat → Int64) (hz_oz : oz ≤ 64) (sa : Nat) (i9 : Int32) (sz : Nat) :
    vx_Met l yX8_row wsX8_rowN ({ frames := 8, cells := 1, slots := 6, locals := 200 } : Room) (va_Pc [.ref x0, .int i9] (rowPc D (tyIJ cI cJ cK) [(x0, .inr (8, [.ref xn, .int (nI z), .ref xl, .ref xt, .ref xo, .ref xf, .ref xs, .ref xp, .ref xq, .ref xr, .ref xc])), (xo, .inr (7, [.ref o1, .int (nI oz)])), (o1, .inl (cJ, 64, .inr (.inl of)))] sa sz))
      (va_Ql (fun (r : Int64) (u : va_W) => u = [(x0, .inr (8, [.ref xn, .int (nI z), .ref xl, .ref xt, .ref xo, .ref xf, .ref xs, .ref xp, .ref xq, .ref xr, .ref xc])), (xo, .inr (7, [.ref o1, .int (nI oz)])), (o1, .inl (cJ, 64, .inr (.inl of)))] ∧ r = of i9.toInt.toNat ∧ 0 ≤ i9.toInt ∧ i9.toInt < oz) (my_B D (tyIJ cI cJ cK) (va_A [(x0, .inr (8, [.ref xn, .int (nI z), .ref xl, .ref xt, .ref xo, .ref xf, .ref xs, .ref xp, .ref xq, .ref xr, .ref xc])), (xo, .inr (7, [.ref o1, .int (nI oz)])), (o1, .inl (cJ, 64, .inr (.inl of)))] sz)) (va_A [(x0, .inr (8, [.ref xn, .int (nI z), .ref xl, .ref xt, .ref xo, .ref xf, .ref xs, .ref xp, .ref xq, .ref xr, .ref xc])), (xo, .inr (7, [.ref o1, .int (nI oz)])), (o1, .inl (cJ, 64, .inr (.inl of)))] sz))
      (vx_X (fun (_ : Unit) => True) (fun E _ t => E = "java/util/NoSuchElementException" ∧ va_P D vwCl [(x0, .inr (8, [.ref xn, .int (nI z), .ref xl, .ref xt, .ref xo, .ref xf, .ref xs, .ref xp, .ref xq, .ref xr, .ref xc])), (xo, .inr (7, [.ref o1, .int (nI oz)])), (o1, .inl (cJ, 64, .inr (.inl of)))] t.heap ∧ (i9.toInt < 0 ∨ (oz : Int) ≤ i9.toInt)) (va_A [(x0, .inr (8, [.ref xn, .int (nI z), .ref xl, .ref xt, .ref xo, .ref xf, .ref xs, .ref xp, .ref xq, .ref xr, .ref xc])), (xo, .inr (7, [.ref o1, .int (nI oz)])), (o1, .inl (cJ, 64, .inr (.inl of)))] sz)) 1 6
      (va_A [(x0, .inr (8, [.ref xn, .int (nI z), .ref xl, .ref xt, .ref xo, .ref xf, .ref xs, .ref xp, .ref xq, .ref xr, .ref xc])), (xo, .inr (7, [.ref o1, .int (nI oz)])), (o1, .inl (cJ, 64, .inr (.inl of)))] sz) := by
  refine vx_ofW (cc := cX8_row) (maxL := 2) (ret := some .long) (by decide) rfl ?_
  intro p e s m args below meth c s₁ B hml htab hv
  obtain ⟨rfl, ⟨hsz, hP, hK, hD0, hN⟩, hR⟩ := hv
  subst hsz
  have hx := B.exec
  have hb := B.bytes
  have hr := B.returns
  have hts := atoms_spec (ws := wsX8_rowN) B.pre
  have hown : s.vm.findClass RX8 = some m.cls := findClass_of_methodNamed B.named
  have hlocks := B.notSynchronized
  have hD := hD0.self (sz := s.heap.size)
  have hl := lv_entry ([.ref x0, .int i9]) (n := 2) (Nat.le_of_ble_eq_true rfl)
  rw [lg_entry_eq]
  generalize (lg_sl ([.ref x0, .int i9]) ++ List.replicate (2 - (lg_sl ([.ref x0, .int i9])).length) Slot.unset).toArray = ls at hl ⊢
  have hl : lv_has ls 2 [(0, .ref x0), (1, .int i9)] := hl
  generalize hAe : va_A [(x0, .inr (8, [.ref xn, .int (nI z), .ref xl, .ref xt, .ref xo, .ref xf, .ref xs, .ref xp, .ref xq, .ref xr, .ref xc])), (xo, .inr (7, [.ref o1, .int (nI oz)])), (o1, .inl (cJ, 64, .inr (.inl of)))] s.heap.size = A at hR hD ⊢
  have hS : va_S A s.heap s.heap [] := va_S.rf
  have hi8 : ∀ w ∈ u_ws RX8 TX8 11, w ∈ wsX8_rowN := by decide +kernel
  have hi7 : ∀ w ∈ u_ws RX7 TX7 2, w ∈ wsX8_rowN := by decide +kernel
  have fl34 := hts (.fieldLink RX8 34 "PlaneColumn" "told" "LPlaneColumn$Told;") (by decide +kernel)
  have hat : ∀ w ∈ nx_at, w.before ([.ref x0, .int i9] : List Value).toArray s = true :=
    nx_hat hR.2.2.2 (fun w h => hts w (List.mem_cons_of_mem _ (List.mem_append_right _ h)))
  have fin : (i9.toInt < 0 ∨ (oz : Int) ≤ i9.toInt) → W p l e ({ frames := 8, cells := 1, slots := 6, locals := 200 } : Room) s m ([.ref x0, .int i9] : List Value).toArray below meth c s.heap [] 0 0 (vx_MQ below (va_Ql (fun (r : Int64) (u : va_W) => u = [(x0, .inr (8, [.ref xn, .int (nI z), .ref xl, .ref xt, .ref xo, .ref xf, .ref xs, .ref xp, .ref xq, .ref xr, .ref xc])), (xo, .inr (7, [.ref o1, .int (nI oz)])), (o1, .inl (cJ, 64, .inr (.inl of)))] ∧ r = of i9.toInt.toNat ∧ 0 ≤ i9.toInt ∧ i9.toInt < oz) (my_B D (tyIJ cI cJ cK) A) A) (vx_X (fun (_ : Unit) => True) (fun E _ t => E = "java/util/NoSuchElementException" ∧ va_P D vwCl [(x0, .inr (8, [.ref xn, .int (nI z), .ref xl, .ref xt, .ref xo, .ref xf, .ref xs, .ref xp, .ref xq, .ref xr, .ref xc])), (xo, .inr (7, [.ref o1, .int (nI oz)])), (o1, .inl (cJ, 64, .inr (.inl of)))] t.heap ∧ (i9.toInt < 0 ∨ (oz : Int) ≤ i9.toInt)) A) ([.ref x0, .int i9] : List Value).toArray s 1 6 A) (F0 m 15 ls []) := by
    intro hin
    refine nx_throwS (own := RX8) (cls := "java/util/NoSuchElementException") (text := "the ROW has no such number") (Y0 := "java/lang/RuntimeException") (r := ["java/lang/Exception"]) (rx := nx_rx) (sa := sa) hx hb hst nx_rx0 nx_rx1 nx_rx2 nx_rx5 hown (by decide +kernel) (by decide +kernel) (by decide +kernel) (hts (.classLink RX8 247 "java/util/NoSuchElementException") (by decide +kernel)) (hts (.initialized "java/util/NoSuchElementException") (by decide +kernel)) hR.1 hat (by decide +kernel) hR.2.1 hR.2.2.1 hS (hl.1.trans hml.symm) dX8_row_15 dX8_row_18 dX8_row_19 dX8_row_21 dX8_row_24 (fun x h => absurd h (fun h => htab x h)) (Nat.le_of_ble_eq_true rfl) (Nat.le_of_ble_eq_true rfl) (Nat.le_of_ble_eq_true rfl) (Nat.le_of_ble_eq_true rfl) hlocks ?_ (fun _ h => nomatch h) (Nat.le_of_ble_eq_true rfl) (Nat.le_of_ble_eq_true rfl)
    intro t _ hz hq
    exact ⟨(), trivial, ⟨rfl, hP.kept (fun k x hx9 => hq x.1 ((hP k x hx9).lt)), hin⟩, hz, fun q h1 _ => hq q h1⟩
  refine lv_iload_n hx hb dX8_row_0 rfl (lv_at hl 1 rfl) ?_
  refine lv_if_lt (tgt := 15) hx hb dX8_row_1 (by decide) (fun c1 => fin (Or.inl (my_lt c1 rfl (by decide +kernel)))) (fun c1 => ?_)
  have d1 : i9.toInt ≥ (0 : Int) := my_nlt c1 rfl (by decide +kernel)
  refine lv_iload_n hx hb dX8_row_4 rfl (lv_at hl 1 rfl) ?_
  refine lv_aload_n hx hb dX8_row_5 rfl (lv_at hl 0 rfl) ?_
  refine va_get (ci := 8) (v := .ref xo) (C := RX8) (T := TX8) (N := 11) hx hb hts hi8 hown hK hP 0 rfl rfl 4 (by decide) fl34 (fun _ h9 => h9) rfl dX8_row_6 ?_
  refine va_getN (ci := 7) (v := .int (nI oz)) (C := RX7) (T := TX7) (N := 2) hx hb hts hi7 hown hK hP 1 rfl rfl 1 (by decide) (nw_f_RX8_237 hN) (fun _ h9 => h9) rfl dX8_row_9 ?_
  refine lv_icmp_lt (tgt := 25) hx hb dX8_row_12 (by decide) (fun c12 => ?_) (fun c12 => fin (Or.inr (my_nlt c12 rfl (nI_toInt (by omega)))))
  have d12 : i9.toInt < (oz : Int) := my_lt c12 rfl (nI_toInt (by omega))
  refine lv_aload_n hx hb dX8_row_25 rfl (lv_at hl 0 rfl) ?_
  refine va_get (ci := 8) (v := .ref xo) (C := RX8) (T := TX8) (N := 11) hx hb hts hi8 hown hK hP 0 rfl rfl 4 (by decide) fl34 (fun _ h9 => h9) rfl dX8_row_26 ?_
  refine va_getN (ci := 7) (v := .ref o1) (C := RX7) (T := TX7) (N := 2) hx hb hts hi7 hown hK hP 1 rfl rfl 0 (by decide) (nw_f_RX8_254 hN) (fun _ h9 => h9) rfl dX8_row_29 ?_
  refine lv_iload_n hx hb dX8_row_32 rfl (lv_at hl 1 rfl) ?_
  refine va_lald hx hb hK hP 2 1 rfl rfl (vp_in_iff.mpr ⟨by omega, by omega⟩) dX8_row_33 ?_
  refine my_eql (y := of i9.toInt.toNat) (congrArg of (my_clamp (by omega))) ?_
  refine vx_ret ?_
  refine W.widen (k := 1) (n := 6) (Nat.le_of_ble_eq_true rfl) (Nat.le_of_ble_eq_true rfl) ?_
  exact my_retL hx hb hr hlocks hK hS [(x0, .inr (8, [.ref xn, .int (nI z), .ref xl, .ref xt, .ref xo, .ref xf, .ref xs, .ref xp, .ref xq, .ref xr, .ref xc])), (xo, .inr (7, [.ref o1, .int (nI oz)])), (o1, .inl (cJ, 64, .inr (.inl of)))] (hP.sub [0, 1, 2] rfl) (hD.sub [0, 1, 2] (by decide) rfl) ⟨rfl, rfl, d1, d12⟩ dX8_row_34
set_option maxHeartbeats 4000000 in
set_option maxRecDepth 100000 in
/-- the law's helper: 0 and the number, or 1 -/
theorem k_L_row (l : Launch) (hst : l.stackTraces = false) (D : va_G) (cI cJ cK : ClassId) (x0 : Nat) (xn : Nat) (xl : Nat) (xt : Nat) (xo : Nat) (xf : Nat) (xs : Nat) (xp : Nat) (xq : Nat) (xr : Nat) (xc : Nat) (o1 : Nat) (o0 : Nat) (z : Nat) (oz : Nat) (of : Nat → Int64) (ou : Nat → Int64) (hz_oz : oz ≤ 64) (sa : Nat) (i9 : Int32) (sz : Nat) :
    Met l yL_row wsL_rowN ({ frames := 9, cells := 1, slots := 6, locals := 260 } : Room) (va_Pc [.ref x0, .int i9, .ref o0] (rowPc D (tyIJ cI cJ cK) [(x0, .inr (8, [.ref xn, .int (nI z), .ref xl, .ref xt, .ref xo, .ref xf, .ref xs, .ref xp, .ref xq, .ref xr, .ref xc])), (xo, .inr (7, [.ref o1, .int (nI oz)])), (o1, .inl (cJ, 64, .inr (.inl of))), (o0, .inl (cJ, 1, .inr (.inl ou)))] sa sz))
      (va_Qi (fun (r : Int32) (u : va_W) => (∃ g : Nat → Int64, u = [(x0, .inr (8, [.ref xn, .int (nI z), .ref xl, .ref xt, .ref xo, .ref xf, .ref xs, .ref xp, .ref xq, .ref xr, .ref xc])), (xo, .inr (7, [.ref o1, .int (nI oz)])), (o1, .inl (cJ, 64, .inr (.inl of))), (o0, .inl (cJ, 1, .inr (.inl g)))] ∧ r = 0 ∧ g 0 = of i9.toInt.toNat ∧ 0 ≤ i9.toInt ∧ i9.toInt < oz) ∨ (u = [(x0, .inr (8, [.ref xn, .int (nI z), .ref xl, .ref xt, .ref xo, .ref xf, .ref xs, .ref xp, .ref xq, .ref xr, .ref xc])), (xo, .inr (7, [.ref o1, .int (nI oz)])), (o1, .inl (cJ, 64, .inr (.inl of))), (o0, .inl (cJ, 1, .inr (.inl ou)))] ∧ r = 1 ∧ (i9.toInt < 0 ∨ (oz : Int) ≤ i9.toInt))) (my_B D (tyIJ cI cJ cK) (va_A [(x0, .inr (8, [.ref xn, .int (nI z), .ref xl, .ref xt, .ref xo, .ref xf, .ref xs, .ref xp, .ref xq, .ref xr, .ref xc])), (xo, .inr (7, [.ref o1, .int (nI oz)])), (o1, .inl (cJ, 64, .inr (.inl of))), (o0, .inl (cJ, 1, .inr (.inl ou)))] sz)) (va_A [(x0, .inr (8, [.ref xn, .int (nI z), .ref xl, .ref xt, .ref xo, .ref xf, .ref xs, .ref xp, .ref xq, .ref xr, .ref xc])), (xo, .inr (7, [.ref o1, .int (nI oz)])), (o1, .inl (cJ, 64, .inr (.inl of))), (o0, .inl (cJ, 1, .inr (.inl ou)))] sz)) 1 6
      (va_A [(x0, .inr (8, [.ref xn, .int (nI z), .ref xl, .ref xt, .ref xo, .ref xf, .ref xs, .ref xp, .ref xq, .ref xr, .ref xc])), (xo, .inr (7, [.ref o1, .int (nI oz)])), (o1, .inl (cJ, 64, .inr (.inl of))), (o0, .inl (cJ, 1, .inr (.inl ou)))] sz) := by
  refine va_MetW (cc := cL_row) (maxL := 4) (ret := some .int) (hh := [(0, 8, 11, 13)]) (by decide) rfl ?_
  intro p e s m args below meth c s₁ B hml hv
  obtain ⟨rfl, ⟨hsz, hP, hK, hD0, hN⟩, hR⟩ := hv
  subst hsz
  have hx := B.exec
  have hb := B.bytes
  have hr := B.returns
  have hts := atoms_spec (ws := wsL_rowN) B.pre
  have htab : c.exceptionTable.toList = [] ++ (⟨0, 8, 11, 13⟩ : ExceptionTableEntry) :: [] := vx_table (x := yL_row) B (hts _ List.mem_cons_self)
  have hown : s.vm.findClass RL = some m.cls := findClass_of_methodNamed B.named
  have hlocks := B.notSynchronized
  have hD := hD0.self (sz := s.heap.size)
  have hl := lv_entry ([.ref x0, .int i9, .ref o0]) (n := 4) (Nat.le_of_ble_eq_true rfl)
  rw [lg_entry_eq]
  generalize (lg_sl ([.ref x0, .int i9, .ref o0]) ++ List.replicate (4 - (lg_sl ([.ref x0, .int i9, .ref o0])).length) Slot.unset).toArray = ls at hl ⊢
  have hl : lv_has ls 4 [(0, .ref x0), (1, .int i9), (2, .ref o0)] := hl
  generalize hAe : va_A [(x0, .inr (8, [.ref xn, .int (nI z), .ref xl, .ref xt, .ref xo, .ref xf, .ref xs, .ref xp, .ref xq, .ref xr, .ref xc])), (xo, .inr (7, [.ref o1, .int (nI oz)])), (o1, .inl (cJ, 64, .inr (.inl of))), (o0, .inl (cJ, 1, .inr (.inl ou)))] s.heap.size = A at hR hD ⊢
  have hA : ∀ q : Nat, s.heap.size ≤ q → A q := fun q h => by rw [← hAe]; exact Or.inr h
  have hS : va_S A s.heap s.heap [] := va_S.rf
  have hat : ∀ w ∈ nx_at, w.before ([.ref x0, .int i9, .ref o0] : List Value).toArray s = true :=
    nx_hat hR.2.2.2 (fun w h => hts w (List.mem_cons_of_mem _ (List.mem_append_right _ h)))
  refine lv_aload_n hx hb dL_row_0 rfl (lv_at hl 2 rfl) ?_
  refine lv_iconst (v := 0) hx hb dL_row_1 (by decide +kernel) ?_
  refine lv_aload_n hx hb dL_row_2 rfl (lv_at hl 0 rfl) ?_
  refine lv_iload_n hx hb dL_row_3 rfl (lv_at hl 1 rfl) ?_
  have hFc := va_free (wc := [(x0, .inr (8, [.ref xn, .int (nI z), .ref xl, .ref xt, .ref xo, .ref xf, .ref xs, .ref xp, .ref xq, .ref xr, .ref xc])), (xo, .inr (7, [.ref o1, .int (nI oz)])), (o1, .inl (cJ, 64, .inr (.inl of)))]) hD hS hA [0, 1, 2] rfl
  have hDc : va_D (fun _ => True) [(x0, .inr (8, [.ref xn, .int (nI z), .ref xl, .ref xt, .ref xo, .ref xf, .ref xs, .ref xp, .ref xq, .ref xr, .ref xc])), (xo, .inr (7, [.ref o1, .int (nI oz)])), (o1, .inl (cJ, 64, .inr (.inl of)))] := (hD.sub [0, 1, 2] (by decide) rfl).weaken (fun _ _ _ _ => trivial)
  refine vx_calll (vx_runV (As := [.int i9]) (rest := [.int 0, .ref o0]) ⟨hx, hb, hml, hown, hts⟩ (k_X8_row l hst D cI cJ cK x0 xn xl xt xo xf xs xp xq xr xc o1 z oz of hz_oz sa i9 s.heap.size) (cwV 1 hts gL_row_X8_row rfl rfl rfl (by decide +kernel) ⟨Nat.le_of_ble_eq_true rfl, Nat.le_of_ble_eq_true rfl⟩)
    ⟨rowPc.blind, va_recv hK hP (ci := 8) (q0 := 0) rfl rfl, fun U hU hW => ⟨rfl, ⟨by rw [hU], by rw [hU]; exact hP.sub [0, 1, 2] rfl, va_K.moved hW.alike hK, hDc, nw.warm hW hN⟩, xR.kept hR hS hU hW hFc⟩⟩ rfl rfl hl.1 rfl (lv_room (Nat.le_of_ble_eq_true rfl)) dL_row_4 ⟨Nat.le_of_ble_eq_true rfl, Nat.le_of_ble_eq_true rfl⟩) hS (fun q _ h => hFc q h) hFc (fun q _ h => hFc q h) (fun E ce q9 u t H1 locs1 ht hvm hpx hBX hz hk hS1 hcell hcv hcl => ?_) (fun r u t H1 locs1 ht hvm hw hB hz hk hS1 => ?_)
  · obtain ⟨hE, hP1, hin⟩ := hBX
    subst hE
    rw [ht] at hP1
    obtain ⟨hP, hD⟩ := va_join (wr := [(o0, .inl (cJ, 1, .inr (.inl ou)))]) (w1 := [(x0, .inr (8, [.ref xn, .int (nI z), .ref xl, .ref xt, .ref xo, .ref xf, .ref xs, .ref xp, .ref xq, .ref xr, .ref xc])), (xo, .inr (7, [.ref o1, .int (nI oz)])), (o1, .inl (cJ, 64, .inr (.inl of)))]) hP hD [0, 1, 2] [3] rfl rfl (by decide) (by decide) hk hFc hP1 hDc.self
    have hP : va_P D vwCl [(o0, .inl (cJ, 1, .inr (.inl ou))), (x0, .inr (8, [.ref xn, .int (nI z), .ref xl, .ref xt, .ref xo, .ref xf, .ref xs, .ref xp, .ref xq, .ref xr, .ref xc])), (xo, .inr (7, [.ref o1, .int (nI oz)])), (o1, .inl (cJ, 64, .inr (.inl of)))] H1 := hP
    have hD : va_D A [(o0, .inl (cJ, 1, .inr (.inl ou))), (x0, .inr (8, [.ref xn, .int (nI z), .ref xl, .ref xt, .ref xo, .ref xf, .ref xs, .ref xp, .ref xq, .ref xr, .ref xc])), (xo, .inr (7, [.ref o1, .int (nI oz)])), (o1, .inl (cJ, 64, .inr (.inl of)))] := hD
    refine vx_catch (name := "java/util/NoSuchElementException") hown [] ⟨0, 8, 11, 13⟩ [] htab (fun _ h => nomatch h) (by decide) (by decide) (hts (.classLink RL 13 "java/util/NoSuchElementException") (by decide +kernel)) (hat (.castable "java/util/NoSuchElementException" "java/util/NoSuchElementException") (by decide +kernel)) hcell hcv hcl ?_
    refine lv_astore_n (lv' := [(3, .ref q9), (0, .ref x0), (1, .int i9), (2, .ref o0)]) hx hb dL_row_11 rfl hl (by decide) rfl (fun ls hl => ?_)
    refine lv_iconst (v := 1) hx hb dL_row_12 (by decide +kernel) ?_
    exact my_retI hx hb hr hlocks hK hS1 [(x0, .inr (8, [.ref xn, .int (nI z), .ref xl, .ref xt, .ref xo, .ref xf, .ref xs, .ref xp, .ref xq, .ref xr, .ref xc])), (xo, .inr (7, [.ref o1, .int (nI oz)])), (o1, .inl (cJ, 64, .inr (.inl of))), (o0, .inl (cJ, 1, .inr (.inl ou)))] (hP.sub [1, 2, 3, 0] rfl) (hD.sub [1, 2, 3, 0] (by decide) rfl) (Or.inr ⟨rfl, rfl, hin⟩) dL_row_13
  · obtain ⟨rfl, rfl, hi1, hi2⟩ := hw
    obtain ⟨hP1, -, hD1⟩ := hB
    rw [ht] at hP1
    obtain ⟨hP, hD⟩ := va_join (wr := [(o0, .inl (cJ, 1, .inr (.inl ou)))]) (w1 := [(x0, .inr (8, [.ref xn, .int (nI z), .ref xl, .ref xt, .ref xo, .ref xf, .ref xs, .ref xp, .ref xq, .ref xr, .ref xc])), (xo, .inr (7, [.ref o1, .int (nI oz)])), (o1, .inl (cJ, 64, .inr (.inl of)))]) hP hD [0, 1, 2] [3] rfl rfl (by decide) (by decide) hk hFc hP1 hD1
    have hP : va_P D vwCl [(o0, .inl (cJ, 1, .inr (.inl ou))), (x0, .inr (8, [.ref xn, .int (nI z), .ref xl, .ref xt, .ref xo, .ref xf, .ref xs, .ref xp, .ref xq, .ref xr, .ref xc])), (xo, .inr (7, [.ref o1, .int (nI oz)])), (o1, .inl (cJ, 64, .inr (.inl of)))] H1 := hP
    have hD : va_D A [(o0, .inl (cJ, 1, .inr (.inl ou))), (x0, .inr (8, [.ref xn, .int (nI z), .ref xl, .ref xt, .ref xo, .ref xf, .ref xs, .ref xp, .ref xq, .ref xr, .ref xc])), (xo, .inr (7, [.ref o1, .int (nI oz)])), (o1, .inl (cJ, 64, .inr (.inl of)))] := hD
    refine va_last hx hb hK hP hD hS1 0 1 rfl rfl (vp_in_nI (n := 0) (by omega) (by omega)) dL_row_7 (fun H locs hP hD hS => ?_)
    obtain ⟨g, eg⟩ : ∃ g : Nat → Int64, g = vp_updL ou (0 : Int32).toNatClampNeg (of i9.toInt.toNat) := ⟨_, rfl⟩
    rw [← eg] at hP hD
    have hP : va_P D vwCl [(o0, .inl (cJ, 1, .inr (.inl g))), (x0, .inr (8, [.ref xn, .int (nI z), .ref xl, .ref xt, .ref xo, .ref xf, .ref xs, .ref xp, .ref xq, .ref xr, .ref xc])), (xo, .inr (7, [.ref o1, .int (nI oz)])), (o1, .inl (cJ, 64, .inr (.inl of)))] H := hP
    have hD : va_D A [(o0, .inl (cJ, 1, .inr (.inl g))), (x0, .inr (8, [.ref xn, .int (nI z), .ref xl, .ref xt, .ref xo, .ref xf, .ref xs, .ref xp, .ref xq, .ref xr, .ref xc])), (xo, .inr (7, [.ref o1, .int (nI oz)])), (o1, .inl (cJ, 64, .inr (.inl of)))] := hD
    refine lv_goto (tgt := 14) hx hb dL_row_8 (by decide) ?_
    refine lv_iconst (v := 0) hx hb dL_row_14 (by decide +kernel) ?_
    exact my_retI hx hb hr hlocks hK hS [(x0, .inr (8, [.ref xn, .int (nI z), .ref xl, .ref xt, .ref xo, .ref xf, .ref xs, .ref xp, .ref xq, .ref xr, .ref xc])), (xo, .inr (7, [.ref o1, .int (nI oz)])), (o1, .inl (cJ, 64, .inr (.inl of))), (o0, .inl (cJ, 1, .inr (.inl g)))] (hP.sub [1, 2, 3, 0] rfl) (hD.sub [1, 2, 3, 0] (by decide) rfl) (Or.inl ⟨g, rfl, rfl, by rw [eg]; exact my_updL0 _ _, hi1, hi2⟩) dL_row_15
end ROWX
