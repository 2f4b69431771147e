section MYK2
theorem cpI.of {l : Launch} {y : MethodName} {ws ws' : List Cond} {rm : Room} {D : va_G} {tys : List (ClassId × FieldType)} {av : List Value} {pre : va_W} {post : Int32 → Prop} {cc : ByteArray} {maxL : Nat} {ret : Option FieldType}
    (hy : plainName y.cls = true) (hw : ws = Cond.code y cc maxL ret :: ws') (hn : (lg_sl av).length ≤ maxL)
    (body : ∀ (p : Program) (e : Env) (s : State) (m : MethodId) (below : List Frame) (meth : Method) (c : Code) (ls : Array Slot), p.tables.exec = Jvm.exec → c.code = cc → meth.sig.returnType = ret → (∀ w ∈ ws, w.before av.toArray s = true) → s.vm.findClass y.cls = some m.cls → c.maxLocals = maxL → meth.locks = false → meth.name = y.name → va_K D vwCl tys s → nw s → va_P D vwCl pre s.heap → lv_has ls maxL (lv_args 0 av) →
      W p l e rm s m av.toArray below meth c s.heap [] 0 0 (MQ below (vp_Si post) av.toArray s 0 0 (fun _ => False)) (F0 m 0 ls [])) : cpI l y ws rm D tys av pre post :=
  my_of hy hw hn (fun p e s m below meth c ls hx hb hr hts hown hml hlocks hname hv hl => body p e s m below meth c ls hx hb hr hts hown hml hlocks hname hv.2.1 hv.2.2 hv.1 hl)
theorem cpL.of {l : Launch} {y : MethodName} {ws ws' : List Cond} {rm : Room} {D : va_G} {tys : List (ClassId × FieldType)} {av : List Value} {pre : va_W} {post : Int64 → Prop} {cc : ByteArray} {maxL : Nat} {ret : Option FieldType}
    (hy : plainName y.cls = true) (hw : ws = Cond.code y cc maxL ret :: ws') (hn : (lg_sl av).length ≤ maxL)
    (body : ∀ (p : Program) (e : Env) (s : State) (m : MethodId) (below : List Frame) (meth : Method) (c : Code) (ls : Array Slot), p.tables.exec = Jvm.exec → c.code = cc → meth.sig.returnType = ret → (∀ w ∈ ws, w.before av.toArray s = true) → s.vm.findClass y.cls = some m.cls → c.maxLocals = maxL → meth.locks = false → meth.name = y.name → va_K D vwCl tys s → nw s → va_P D vwCl pre s.heap → lv_has ls maxL (lv_args 0 av) →
      W p l e rm s m av.toArray below meth c s.heap [] 0 0 (MQ below (vp_Sl post) av.toArray s 0 0 (fun _ => False)) (F0 m 0 ls [])) : cpL l y ws rm D tys av pre post :=
  my_of hy hw hn (fun p e s m below meth c ls hx hb hr hts hown hml hlocks hname hv hl => body p e s m below meth c ls hx hb hr hts hown hml hlocks hname hv.2.1 hv.2.2 hv.1 hl)
theorem ctI.of {l : Launch} {y : MethodName} {ws ws' : List Cond} {rm : Room} {D : va_G} {tys : List (ClassId × FieldType)} {av : List Value} {pre : va_W} {post : Int32 → va_W → Prop} {cc : ByteArray} {maxL : Nat} {ret : Option FieldType}
    (hy : plainName y.cls = true) (hw : ws = Cond.code y cc maxL ret :: ws') (hn : (lg_sl av).length ≤ maxL)
    (body : ∀ (p : Program) (e : Env) (s : State) (m : MethodId) (below : List Frame) (meth : Method) (c : Code) (ls : Array Slot) (A : Nat → Prop), p.tables.exec = Jvm.exec → c.code = cc → meth.sig.returnType = ret → (∀ w ∈ ws, w.before av.toArray s = true) → s.vm.findClass y.cls = some m.cls → c.maxLocals = maxL → meth.locks = false → meth.name = y.name → (∀ q : Nat, s.heap.size ≤ q → A q) → va_K D vwCl tys s → nw s → va_P D vwCl pre s.heap → va_D A pre → va_S A s.heap s.heap [] → lv_has ls maxL (lv_args 0 av) →
      W p l e rm s m av.toArray below meth c s.heap [] 0 0 (MQ below (va_Qi post (my_B D tys A) A) av.toArray s rm.cells rm.slots A) (F0 m 0 ls [])) : ctI l y ws rm D tys av pre post :=
  my_ofC (Qf := fun A => va_Qi post (my_B D tys A) A) hy hw hn body
theorem ctL.of {l : Launch} {y : MethodName} {ws ws' : List Cond} {rm : Room} {D : va_G} {tys : List (ClassId × FieldType)} {av : List Value} {pre : va_W} {post : Int64 → va_W → Prop} {cc : ByteArray} {maxL : Nat} {ret : Option FieldType}
    (hy : plainName y.cls = true) (hw : ws = Cond.code y cc maxL ret :: ws') (hn : (lg_sl av).length ≤ maxL)
    (body : ∀ (p : Program) (e : Env) (s : State) (m : MethodId) (below : List Frame) (meth : Method) (c : Code) (ls : Array Slot) (A : Nat → Prop), p.tables.exec = Jvm.exec → c.code = cc → meth.sig.returnType = ret → (∀ w ∈ ws, w.before av.toArray s = true) → s.vm.findClass y.cls = some m.cls → c.maxLocals = maxL → meth.locks = false → meth.name = y.name → (∀ q : Nat, s.heap.size ≤ q → A q) → va_K D vwCl tys s → nw s → va_P D vwCl pre s.heap → va_D A pre → va_S A s.heap s.heap [] → lv_has ls maxL (lv_args 0 av) →
      W p l e rm s m av.toArray below meth c s.heap [] 0 0 (MQ below (va_Ql post (my_B D tys A) A) av.toArray s rm.cells rm.slots A) (F0 m 0 ls [])) : ctL l y ws rm D tys av pre post :=
  my_ofC (Qf := fun A => va_Ql post (my_B D tys A) A) hy hw hn body
theorem ctV.of {l : Launch} {y : MethodName} {ws ws' : List Cond} {rm : Room} {D : va_G} {tys : List (ClassId × FieldType)} {av : List Value} {pre : va_W} {post : va_W → Prop} {cc : ByteArray} {maxL : Nat} {ret : Option FieldType}
    (hy : plainName y.cls = true) (hw : ws = Cond.code y cc maxL ret :: ws') (hn : (lg_sl av).length ≤ maxL)
    (body : ∀ (p : Program) (e : Env) (s : State) (m : MethodId) (below : List Frame) (meth : Method) (c : Code) (ls : Array Slot) (A : Nat → Prop), p.tables.exec = Jvm.exec → c.code = cc → meth.sig.returnType = ret → (∀ w ∈ ws, w.before av.toArray s = true) → s.vm.findClass y.cls = some m.cls → c.maxLocals = maxL → meth.locks = false → meth.name = y.name → (∀ q : Nat, s.heap.size ≤ q → A q) → va_K D vwCl tys s → nw s → va_P D vwCl pre s.heap → va_D A pre → va_S A s.heap s.heap [] → lv_has ls maxL (lv_args 0 av) →
      W p l e rm s m av.toArray below meth c s.heap [] 0 0 (MQ below (va_Qv post (my_B D tys A) A) av.toArray s rm.cells rm.slots A) (F0 m 0 ls [])) : ctV l y ws rm D tys av pre post :=
  my_ofC (Qf := fun A => va_Qv post (my_B D tys A) A) hy hw hn body
/-- comparisons of ints, as facts of Int -/
theorem my_lt {x y : Int32} {a b : Int} (c : x < y) (hx : x.toInt = a) (hy : y.toInt = b) : a < b := by rw [← hx, ← hy]; exact Int32.lt_iff_toInt_lt.mp c
theorem my_nlt {x y : Int32} {a b : Int} (c : ¬ x < y) (hx : x.toInt = a) (hy : y.toInt = b) : a ≥ b := by
  rw [← hx, ← hy]; exact Int.not_lt.mp (fun h => c (Int32.lt_iff_toInt_lt.mpr h))
theorem my_le {x y : Int32} {a b : Int} (c : x ≤ y) (hx : x.toInt = a) (hy : y.toInt = b) : a ≤ b := by rw [← hx, ← hy]; exact Int32.le_iff_toInt_le.mp c
theorem my_nle {x y : Int32} {a b : Int} (c : ¬ x ≤ y) (hx : x.toInt = a) (hy : y.toInt = b) : a > b := by
  rw [← hx, ← hy]; exact Int.not_le.mp (fun h => c (Int32.le_iff_toInt_le.mpr h))
theorem my_ge {x y : Int32} {a b : Int} (c : y ≤ x) (hx : x.toInt = a) (hy : y.toInt = b) : a ≥ b := my_le c hy hx
theorem my_nge {x y : Int32} {a b : Int} (c : ¬ y ≤ x) (hx : x.toInt = a) (hy : y.toInt = b) : a < b := my_nle c hy hx
theorem my_gt {x y : Int32} {a b : Int} (c : y < x) (hx : x.toInt = a) (hy : y.toInt = b) : a > b := my_lt c hy hx
theorem my_ngt {x y : Int32} {a b : Int} (c : ¬ y < x) (hx : x.toInt = a) (hy : y.toInt = b) : a ≤ b := my_nlt c hy hx
theorem my_eq {x y : Int32} {a b : Int} (c : x = y) (hx : x.toInt = a) (hy : y.toInt = b) : a = b := by rw [← hx, ← hy, c]
theorem my_ne {x y : Int32} {a b : Int} (c : ¬ x = y) (hx : x.toInt = a) (hy : y.toInt = b) : a ≠ b := by
  rw [← hx, ← hy]; exact fun h => c (Int32.toInt_inj.mp h)
theorem my_eqI {x y : Int32} {a : Int} (h : x.toInt = a) (hy : y.toInt = a) : x = y := Int32.toInt_inj.mp (h.trans hy.symm)
/-- .. of longs, through lcmp -/
theorem my_llt {x y : Int64} {a b : Int} (c : lg_cmp x y < 0) (hx : x.toInt = a) (hy : y.toInt = b) : a < b := by rw [← hx, ← hy]; exact Int64.lt_iff_toInt_lt.mp ((lg_cmp_lt x y).mp c)
theorem my_lnlt {x y : Int64} {a b : Int} (c : ¬ lg_cmp x y < 0) (hx : x.toInt = a) (hy : y.toInt = b) : a ≥ b := by
  rw [← hx, ← hy]; exact Int.not_lt.mp (fun h => c ((lg_cmp_lt x y).mpr (Int64.lt_iff_toInt_lt.mpr h)))
theorem my_lgt {x y : Int64} {a b : Int} (c : 0 < lg_cmp x y) (hx : x.toInt = a) (hy : y.toInt = b) : a > b := by rw [← hx, ← hy]; exact Int64.lt_iff_toInt_lt.mp ((lg_cmp_gt x y).mp c)
theorem my_lngt {x y : Int64} {a b : Int} (c : ¬ 0 < lg_cmp x y) (hx : x.toInt = a) (hy : y.toInt = b) : a ≤ b := by
  rw [← hx, ← hy]; exact Int.not_lt.mp (fun h => c ((lg_cmp_gt x y).mpr (Int64.lt_iff_toInt_lt.mpr h)))
theorem my_leq {x y : Int64} {a b : Int} (c : lg_cmp x y = 0) (hx : x.toInt = a) (hy : y.toInt = b) : a = b := by rw [← hx, ← hy, (lg_cmp_eq x y).mp c]
theorem my_lne {x y : Int64} {a b : Int} (c : ¬ lg_cmp x y = 0) (hx : x.toInt = a) (hy : y.toInt = b) : a ≠ b := by
  rw [← hx, ← hy]; exact fun h => c ((lg_cmp_eq x y).mpr (Int64.toInt_inj.mp h))
theorem my_addI {x y : Int32} {a b : Int} (hx : x.toInt = a) (hy : y.toInt = b) (h1 : -2147483648 ≤ a + b) (h2 : a + b < 2147483648) : (x + y).toInt = a + b := by
  rw [Int32.toInt_add, hx, hy]; exact Int.bmod_eq_of_le (by omega) (by omega)
theorem my_subI {x y : Int32} {a b : Int} (hx : x.toInt = a) (hy : y.toInt = b) (h1 : -2147483648 ≤ a - b) (h2 : a - b < 2147483648) : (x - y).toInt = a - b := by
  rw [Int32.toInt_sub, hx, hy]; exact Int.bmod_eq_of_le (by omega) (by omega)
theorem my_nat {x : Int32} (h : 0 ≤ x.toInt) : x = nI x.toInt.toNat := by
  have h2 : x.toInt < 2147483648 := Int32.toInt_lt x
  apply Int32.toInt_inj.mp
  rw [nI_toInt (by omega)]; omega
theorem my_maxI {x y z : Int32} {a b : Int} (e : z = if x < y then y else x) (hx : x.toInt = a) (hy : y.toInt = b) : a ≤ z.toInt ∧ b ≤ z.toInt ∧ (z.toInt = a ∨ z.toInt = b) := by
  by_cases h : x < y
  · rw [if_pos h] at e; have := Int32.lt_iff_toInt_lt.mp h; subst e; omega
  · rw [if_neg h] at e; have h2 : ¬ x.toInt < y.toInt := fun q => h (Int32.lt_iff_toInt_lt.mpr q); subst e; omega
theorem my_minI {x y z : Int32} {a b : Int} (e : z = if y < x then y else x) (hx : x.toInt = a) (hy : y.toInt = b) : z.toInt ≤ a ∧ z.toInt ≤ b ∧ (z.toInt = a ∨ z.toInt = b) := by
  by_cases h : y < x
  · rw [if_pos h] at e; have := Int32.lt_iff_toInt_lt.mp h; subst e; omega
  · rw [if_neg h] at e; have h2 : ¬ y.toInt < x.toInt := fun q => h (Int32.lt_iff_toInt_lt.mpr q); subst e; omega
/-- sums of small numbers -/
theorem my_addN (a b : Nat) : nI a + nI b = nI (a + b) := nI_add a b
theorem my_addN2 (a b : Nat) : nI b + nI a = nI (a + b) := by rw [nI_add, Nat.add_comm]
theorem my_incN (a b : Nat) {z : Int} (h : Int32.ofInt z = nI b) : nI a + Int32.ofInt z = nI (a + b) := by rw [h]; exact nI_add a b
theorem my_decN (a : Nat) : nI (a + 1) + Int32.ofInt (-1) = nI a := by
  rw [show Int32.ofInt (-1) = -1 from rfl, ← Int32.sub_eq_add_neg]; exact nI_pred a
theorem my_subN {a b : Nat} (h : b ≤ a) : nI a - nI b = nI (a - b) := by
  have e : nI (a - b) + nI b = nI a := by rw [nI_add]; congr 1; omega
  rw [← e]; exact Int32.add_sub_cancel _ _
end MYK2
