/-! MY OWN ROWS: contracts whose cells behind the call are a list of cells, calls with their frame in one row -/
section MYK
/-- arrays over an array type: what the word says, and that it stays -/
theorem my_aoa_spec {t : FieldType} {U : State} (h : va_AOA t U) : ∃ comp c k, U.vm.findClass (FieldType.array t).toString = some comp ∧ (U.vm.classes.findIdx? fun (x : Class) => match x.kind with | .array component _ => component == comp | _ => false) = some c ∧ U.vm.classes[c]? = some k ∧ k.kind = .array comp (.array t) ∧ U.vm.findClass ("[" ++ (FieldType.array t).toString) = some c := by
  unfold va_AOA Cond.before at h
  simp only [Cond.holds, Cond.value, beq_iff_eq] at h
  cases hc : U.vm.findClass (FieldType.array t).toString with
  | none => simp [hc] at h
  | some comp =>
    simp only [hc, Option.bind_some, Option.bind_eq_some_iff, Option.map_eq_some_iff] at h
    obtain ⟨c, hi, k, hk, hb⟩ := h
    obtain ⟨hlt, hp, -⟩ := Array.findIdx?_eq_some_iff_getElem.mp hi
    have hkk : U.vm.classes[c] = k := (Array.getElem?_eq_some_iff.mp hk).2
    rw [hkk] at hp
    cases hkind : k.kind with
    | array component ty =>
      rw [hkind] at hb hp
      simp at hb hp
      exact ⟨comp, c, k, rfl, hi, hk, by rw [hkind, hp, hb.1], hb.2⟩
    | _ => rw [hkind] at hb; simp at hb
theorem my_aoa {t : FieldType} {u U : State} (hvm : u.vm.Alike U.vm) (h : va_AOA t u) : va_AOA t U := by
  obtain ⟨comp, c, k, h1, h2, h3, h4, h5⟩ := my_aoa_spec h
  obtain ⟨k', hk', he⟩ := hvm.2.2 _ _ h3
  have hi : (U.vm.classes.findIdx? fun (x : Class) => match x.kind with | .array component _ => component == comp | _ => false) = some c := by
    have e0 : U.vm.bare = u.vm.bare := by first | exact hvm.bare_eq | exact hvm.bare_eq.symm
    refine (va_idx_bare U.vm comp).symm.trans ?_
    rw [e0]
    exact (va_idx_bare u.vm comp).trans h2
  have hkind : k'.kind = .array comp (.array t) := by rw [he]; exact h4
  have f1 : U.vm.findClass (FieldType.array t).toString = some comp := by rw [hvm.findClass]; exact h1
  have f2 : U.vm.findClass ("[" ++ (FieldType.array t).toString) = some c := by rw [hvm.findClass]; exact h5
  unfold va_AOA Cond.before Cond.holds
  simp only [Cond.value]
  rw [f1, Option.bind_some]
  refine (congrArg (fun o : Option Nat => (o.bind (fun c => (U.vm.classes[c]?).map fun (k : Class) => match k.kind with | .array _ ty => decide (ty = FieldType.array t) && decide (U.vm.findClass ("[" ++ (FieldType.array t).toString) = some c) | _ => false) == some true)) hi).trans ?_
  simp [hk', hkind, f2]
/-! links to private members of a nest mate: kept beside the cells, as the tables' words don't hold them -/
def nwF : List (String × Nat × String × String × String × String) := [(RX8, 130, "PlaneColumn$Levels", "bits", "[J", "PlaneColumn"), (RX3, 22, "PlaneColumn$Signs", "size", "I", "PlaneColumn"), (RX8, 129, "PlaneColumn$Signs", "size", "I", "PlaneColumn"), (RX8, 254, "PlaneColumn$Told", "values", "[J", "PlaneColumn"), (RX8, 237, "PlaneColumn$Told", "size", "I", "PlaneColumn"), (RX8, 263, "PlaneColumn$Tally", "size", "I", "PlaneColumn"), (RX8, 85, "PlaneColumn$PartReader", "numbers", "[I", "PlaneColumn"), (RX8, 84, "PlaneColumn$PartReader", "size", "I", "PlaneColumn"), (RX8, 100, "PlaneColumn$PlaneReader", "bits", "[J", "PlaneColumn"), (RX8, 97, "PlaneColumn$PlaneReader", "width", "I", "PlaneColumn"), (RX8, 161, "PlaneColumn$OrderSearch", "order", "[I", "PlaneColumn"), (RX8, 207, "PlaneColumn$Climbs", "longest", "I", "PlaneColumn")]
def nwM : List (String × Nat × MethodName × String) := [(RX8, 19, yX1_init, "PlaneColumn"), (RX8, 26, yX5_init, "PlaneColumn"), (RX8, 33, yX7_init, "PlaneColumn"), (RX8, 40, yX6_init, "PlaneColumn"), (RX8, 50, yX3_init, "PlaneColumn"), (RX8, 57, yX4_init, "PlaneColumn"), (RX8, 64, yX2_init, "PlaneColumn"), (RX8, 71, yX0_init, "PlaneColumn"), (RX1, 43, yX8_bitAt, "PlaneColumn")]
def nw (U : State) : Prop := (∀ q ∈ nwF, va_Nw (.fieldLinkNest q.1 q.2.1 q.2.2.1 q.2.2.2.1 q.2.2.2.2.1 q.2.2.2.2.2) U) ∧ (∀ q ∈ nwM, va_Nw (.methodLinkNest q.1 q.2.1 q.2.2.1 q.2.2.2) U) ∧ va_AOA .long U
theorem nw.warm {s U : State} (hW : s.WarmedH U.vm) (h : nw s) : nw U := ⟨fun q hq => va_Nw.warmF hW (h.1 q hq), fun q hq => va_Nw.warmM hW (h.2.1 q hq), my_aoa hW.alike h.2.2⟩
theorem nw.same {u U : State} (e : u.vm = U.vm) (h : nw u) : nw U := ⟨fun q hq => va_Nw.same rfl e (h.1 q hq), fun q hq => va_Nw.same rfl e (h.2.1 q hq), my_aoa (by rw [e]; exact Vm.Alike.refl _) h.2.2⟩
theorem nw_f_RX8_130 {s : State} {args : Array Value} (h : nw s) : (Cond.fieldLinkNest RX8 130 "PlaneColumn$Levels" "bits" "[J" "PlaneColumn").before args s = true := va_Nw.use rfl (h.1 (RX8, 130, "PlaneColumn$Levels", "bits", "[J", "PlaneColumn") (by decide +kernel))
theorem nw_f_RX3_22 {s : State} {args : Array Value} (h : nw s) : (Cond.fieldLinkNest RX3 22 "PlaneColumn$Signs" "size" "I" "PlaneColumn").before args s = true := va_Nw.use rfl (h.1 (RX3, 22, "PlaneColumn$Signs", "size", "I", "PlaneColumn") (by decide +kernel))
theorem nw_f_RX8_129 {s : State} {args : Array Value} (h : nw s) : (Cond.fieldLinkNest RX8 129 "PlaneColumn$Signs" "size" "I" "PlaneColumn").before args s = true := va_Nw.use rfl (h.1 (RX8, 129, "PlaneColumn$Signs", "size", "I", "PlaneColumn") (by decide +kernel))
theorem nw_f_RX8_254 {s : State} {args : Array Value} (h : nw s) : (Cond.fieldLinkNest RX8 254 "PlaneColumn$Told" "values" "[J" "PlaneColumn").before args s = true := va_Nw.use rfl (h.1 (RX8, 254, "PlaneColumn$Told", "values", "[J", "PlaneColumn") (by decide +kernel))
theorem nw_f_RX8_237 {s : State} {args : Array Value} (h : nw s) : (Cond.fieldLinkNest RX8 237 "PlaneColumn$Told" "size" "I" "PlaneColumn").before args s = true := va_Nw.use rfl (h.1 (RX8, 237, "PlaneColumn$Told", "size", "I", "PlaneColumn") (by decide +kernel))
theorem nw_f_RX8_263 {s : State} {args : Array Value} (h : nw s) : (Cond.fieldLinkNest RX8 263 "PlaneColumn$Tally" "size" "I" "PlaneColumn").before args s = true := va_Nw.use rfl (h.1 (RX8, 263, "PlaneColumn$Tally", "size", "I", "PlaneColumn") (by decide +kernel))
theorem nw_f_RX8_85 {s : State} {args : Array Value} (h : nw s) : (Cond.fieldLinkNest RX8 85 "PlaneColumn$PartReader" "numbers" "[I" "PlaneColumn").before args s = true := va_Nw.use rfl (h.1 (RX8, 85, "PlaneColumn$PartReader", "numbers", "[I", "PlaneColumn") (by decide +kernel))
theorem nw_f_RX8_84 {s : State} {args : Array Value} (h : nw s) : (Cond.fieldLinkNest RX8 84 "PlaneColumn$PartReader" "size" "I" "PlaneColumn").before args s = true := va_Nw.use rfl (h.1 (RX8, 84, "PlaneColumn$PartReader", "size", "I", "PlaneColumn") (by decide +kernel))
theorem nw_f_RX8_100 {s : State} {args : Array Value} (h : nw s) : (Cond.fieldLinkNest RX8 100 "PlaneColumn$PlaneReader" "bits" "[J" "PlaneColumn").before args s = true := va_Nw.use rfl (h.1 (RX8, 100, "PlaneColumn$PlaneReader", "bits", "[J", "PlaneColumn") (by decide +kernel))
theorem nw_f_RX8_97 {s : State} {args : Array Value} (h : nw s) : (Cond.fieldLinkNest RX8 97 "PlaneColumn$PlaneReader" "width" "I" "PlaneColumn").before args s = true := va_Nw.use rfl (h.1 (RX8, 97, "PlaneColumn$PlaneReader", "width", "I", "PlaneColumn") (by decide +kernel))
theorem nw_f_RX8_161 {s : State} {args : Array Value} (h : nw s) : (Cond.fieldLinkNest RX8 161 "PlaneColumn$OrderSearch" "order" "[I" "PlaneColumn").before args s = true := va_Nw.use rfl (h.1 (RX8, 161, "PlaneColumn$OrderSearch", "order", "[I", "PlaneColumn") (by decide +kernel))
theorem nw_f_RX8_207 {s : State} {args : Array Value} (h : nw s) : (Cond.fieldLinkNest RX8 207 "PlaneColumn$Climbs" "longest" "I" "PlaneColumn").before args s = true := va_Nw.use rfl (h.1 (RX8, 207, "PlaneColumn$Climbs", "longest", "I", "PlaneColumn") (by decide +kernel))
theorem nw_m_RX8_19 {s : State} (h : nw s) : va_Nw (.methodLinkNest RX8 19 yX1_init "PlaneColumn") s := h.2.1 (RX8, 19, yX1_init, "PlaneColumn") (by decide +kernel)
theorem nw_m_RX8_26 {s : State} (h : nw s) : va_Nw (.methodLinkNest RX8 26 yX5_init "PlaneColumn") s := h.2.1 (RX8, 26, yX5_init, "PlaneColumn") (by decide +kernel)
theorem nw_m_RX8_33 {s : State} (h : nw s) : va_Nw (.methodLinkNest RX8 33 yX7_init "PlaneColumn") s := h.2.1 (RX8, 33, yX7_init, "PlaneColumn") (by decide +kernel)
theorem nw_m_RX8_40 {s : State} (h : nw s) : va_Nw (.methodLinkNest RX8 40 yX6_init "PlaneColumn") s := h.2.1 (RX8, 40, yX6_init, "PlaneColumn") (by decide +kernel)
theorem nw_m_RX8_50 {s : State} (h : nw s) : va_Nw (.methodLinkNest RX8 50 yX3_init "PlaneColumn") s := h.2.1 (RX8, 50, yX3_init, "PlaneColumn") (by decide +kernel)
theorem nw_m_RX8_57 {s : State} (h : nw s) : va_Nw (.methodLinkNest RX8 57 yX4_init "PlaneColumn") s := h.2.1 (RX8, 57, yX4_init, "PlaneColumn") (by decide +kernel)
theorem nw_m_RX8_64 {s : State} (h : nw s) : va_Nw (.methodLinkNest RX8 64 yX2_init "PlaneColumn") s := h.2.1 (RX8, 64, yX2_init, "PlaneColumn") (by decide +kernel)
theorem nw_m_RX8_71 {s : State} (h : nw s) : va_Nw (.methodLinkNest RX8 71 yX0_init "PlaneColumn") s := h.2.1 (RX8, 71, yX0_init, "PlaneColumn") (by decide +kernel)
theorem nw_m_RX1_43 {s : State} (h : nw s) : va_Nw (.methodLinkNest RX1 43 yX8_bitAt "PlaneColumn") s := h.2.1 (RX1, 43, yX8_bitAt, "PlaneColumn") (by decide +kernel)
/-- int and long arrays have one class each -/
abbrev tyIJ (cI cJ cK : ClassId) : List (ClassId × FieldType) := [(cI, .int), (cJ, .long), (cK, .array .long)]
def my_PP (D : va_G) (tys : List (ClassId × FieldType)) (pre : va_W) : State → Prop := fun U => va_P D vwCl pre U.heap ∧ va_K D vwCl tys U ∧ nw U
def my_PC (D : va_G) (tys : List (ClassId × FieldType)) (pre : va_W) (sz : Nat) : State → Prop := fun U => U.heap.size = sz ∧ va_P D vwCl pre U.heap ∧ va_K D vwCl tys U ∧ va_D (fun _ => True) pre ∧ nw U
def my_B (D : va_G) (tys : List (ClassId × FieldType)) (A : Nat → Prop) (u : va_W) (t : State) : Prop := va_P D vwCl u t.heap ∧ va_K D vwCl tys t ∧ va_D A u
/-- contracts that leave the heap as it is -/
def cpI (l : Launch) (y : MethodName) (ws : List Cond) (rm : Room) (D : va_G) (tys : List (ClassId × FieldType)) (av : List Value) (pre : va_W) (post : Int32 → Prop) : Prop := Met l y ws rm (va_Pc av (my_PP D tys pre)) (vp_Si post) 0 0 (fun _ => False)
def cpL (l : Launch) (y : MethodName) (ws : List Cond) (rm : Room) (D : va_G) (tys : List (ClassId × FieldType)) (av : List Value) (pre : va_W) (post : Int64 → Prop) : Prop := Met l y ws rm (va_Pc av (my_PP D tys pre)) (vp_Sl post) 0 0 (fun _ => False)
/-- contracts over cells -/
def ctI (l : Launch) (y : MethodName) (ws : List Cond) (rm : Room) (D : va_G) (tys : List (ClassId × FieldType)) (av : List Value) (pre : va_W) (post : Int32 → va_W → Prop) : Prop := ∀ sz : Nat, Met l y ws rm (va_Pc av (my_PC D tys pre sz)) (va_Qi post (my_B D tys (va_A pre sz)) (va_A pre sz)) rm.cells rm.slots (va_A pre sz)
def ctL (l : Launch) (y : MethodName) (ws : List Cond) (rm : Room) (D : va_G) (tys : List (ClassId × FieldType)) (av : List Value) (pre : va_W) (post : Int64 → va_W → Prop) : Prop := ∀ sz : Nat, Met l y ws rm (va_Pc av (my_PC D tys pre sz)) (va_Ql post (my_B D tys (va_A pre sz)) (va_A pre sz)) rm.cells rm.slots (va_A pre sz)
def ctV (l : Launch) (y : MethodName) (ws : List Cond) (rm : Room) (D : va_G) (tys : List (ClassId × FieldType)) (av : List Value) (pre : va_W) (post : va_W → Prop) : Prop := ∀ sz : Nat, Met l y ws rm (va_Pc av (my_PC D tys pre sz)) (va_Qv post (my_B D tys (va_A pre sz)) (va_A pre sz)) rm.cells rm.slots (va_A pre sz)
/-- a method's entry -/
theorem my_of {l : Launch} {y : MethodName} {ws ws' : List Cond} {rm : Room} {Qc : Array Value → State → Outcome → State → Prop} {mc ms : Nat} {free : Addr → Prop} {cc : ByteArray} {maxL : Nat} {ret : Option FieldType} {av : List Value} {PP : State → Prop}
    (hy : plainName y.cls = true) (hw : ws = Cond.code y cc maxL ret :: ws') (hn : (lg_sl av).length ≤ maxL)
    (body : ∀ (p : Program) (e : Env) (s : State) (m : MethodId) (below : List Frame) (meth : Method) (c : Code) (ls : Array Slot), p.tables.exec = Jvm.exec → c.code = cc → meth.sig.returnType = ret → (∀ w ∈ ws, w.before av.toArray s = true) → s.vm.findClass y.cls = some m.cls → c.maxLocals = maxL → meth.locks = false → meth.name = y.name → PP s → lv_has ls maxL (lv_args 0 av) →
      W p l e rm s m av.toArray below meth c s.heap [] 0 0 (MQ below Qc av.toArray s mc ms free) (F0 m 0 ls [])) : Met l y ws rm (va_Pc av PP) Qc mc ms free := by
  refine Met.ofW (cc := cc) (maxL := maxL) (ret := ret) hy hw ?_
  intro p e s m args below meth c s₁ B hml hv
  obtain ⟨rfl, hv⟩ := hv
  rw [lg_entry_eq]
  exact body p e s m below meth c _ B.exec B.bytes B.returns (atoms_spec (ws := ws) B.pre) (findClass_of_methodNamed B.named) hml B.notSynchronized (name_of_methodNamed B.named B.method).1 hv (lv_entry av hn)
/-- .. of a contract over cells -/
theorem my_ofC {l : Launch} {y : MethodName} {ws ws' : List Cond} {rm : Room} {Qf : (Nat → Prop) → Array Value → State → Outcome → State → Prop} {cc : ByteArray} {maxL : Nat} {ret : Option FieldType} {av : List Value} {D : va_G} {tys : List (ClassId × FieldType)} {pre : va_W}
    (hy : plainName y.cls = true) (hw : ws = Cond.code y cc maxL ret :: ws') (hn : (lg_sl av).length ≤ maxL)
    (body : ∀ (p : Program) (e : Env) (s : State) (m : MethodId) (below : List Frame) (meth : Method) (c : Code) (ls : Array Slot) (A : Nat → Prop), p.tables.exec = Jvm.exec → c.code = cc → meth.sig.returnType = ret → (∀ w ∈ ws, w.before av.toArray s = true) → s.vm.findClass y.cls = some m.cls → c.maxLocals = maxL → meth.locks = false → meth.name = y.name → (∀ q : Nat, s.heap.size ≤ q → A q) → va_K D vwCl tys s → nw s → va_P D vwCl pre s.heap → va_D A pre → va_S A s.heap s.heap [] → lv_has ls maxL (lv_args 0 av) →
      W p l e rm s m av.toArray below meth c s.heap [] 0 0 (MQ below (Qf A) av.toArray s rm.cells rm.slots A) (F0 m 0 ls [])) : ∀ sz : Nat, Met l y ws rm (va_Pc av (my_PC D tys pre sz)) (Qf (va_A pre sz)) rm.cells rm.slots (va_A pre sz) := by
  intro sz
  refine my_of hy hw hn ?_
  intro p e s m below meth c ls hx hb hr hts hown hml hlocks hname hv hl
  obtain ⟨rfl, hP, hK, hD, hN⟩ := hv
  exact body p e s m below meth c ls _ hx hb hr hts hown hml hlocks hname (fun q h => Or.inr h) hK hN hP hD.self va_S.rf hl
section Rows
variable {p : Program} {l : Launch} {e : Env} {R : Room} {s : State} {m : MethodId} {args : Array Value} {below : List Frame} {meth : Method} {c : Code} {H : Heap} {locs : List Loc} {cells slots : Nat} {Q : State → Prop}
variable {cc : ByteArray} {pc : Nat} {ls : Array Slot} {rest : List Value} {D : va_G} {tys : List (ClassId × FieldType)} {A : Nat → Prop} {W0 wc wr : va_W}
theorem my_eqi {x y : Int32} (h : x = y) (k : W p l e R s m args below meth c H locs cells slots Q (F0 m pc ls (.int y :: rest))) : W p l e R s m args below meth c H locs cells slots Q (F0 m pc ls (.int x :: rest)) := by
  subst h; exact k
theorem my_eql {x y : Int64} (h : x = y) (k : W p l e R s m args below meth c H locs cells slots Q (F0 m pc ls (.long y :: rest))) : W p l e R s m args below meth c H locs cells slots Q (F0 m pc ls (.long x :: rest)) := by
  subst h; exact k
/-- ends -/
theorem my_retI {post : Int32 → va_W → Prop} {v : Int32} (hx : p.tables.exec = Jvm.exec) (hb : c.code = cc) (hr : meth.sig.returnType = some .int) (hlocks : meth.locks = false) (hK : va_K D vwCl tys s) (hS : va_S A s.heap H locs) (u : va_W) (hP : va_P D vwCl u H) (hD : va_D A u) (hp : post v u) (hdg : decode cc pc = .ok (.ireturn, 1)) : W p l e R s m args below meth c H locs cells slots (MQ below (va_Qi post (my_B D tys A) A) args s cells slots A) (F0 m pc ls [.int v]) :=
  W.iret hx hb hr (fun t ht hW => ⟨⟨v, u, rfl, hp, by rw [ht]; exact hP, va_K.moved hW.alike hK, hD⟩, hS.F ht⟩) hS.2.2 hdg hlocks
theorem my_retZ {post : Int32 → va_W → Prop} {v : Int32} (hx : p.tables.exec = Jvm.exec) (hb : c.code = cc) (hr : meth.sig.returnType = some .boolean) (hlocks : meth.locks = false) (hn : narrow .boolean (.int v) = .int v) (hK : va_K D vwCl tys s) (hS : va_S A s.heap H locs) (u : va_W) (hP : va_P D vwCl u H) (hD : va_D A u) (hp : post v u) (hdg : decode cc pc = .ok (.ireturn, 1)) : W p l e R s m args below meth c H locs cells slots (MQ below (va_Qi post (my_B D tys A) A) args s cells slots A) (F0 m pc ls [.int v]) :=
  W.zret hx hb hr hn (fun t ht hW => ⟨⟨v, u, rfl, hp, by rw [ht]; exact hP, va_K.moved hW.alike hK, hD⟩, hS.F ht⟩) hS.2.2 hdg hlocks
theorem my_retL {post : Int64 → va_W → Prop} {v : Int64} (hx : p.tables.exec = Jvm.exec) (hb : c.code = cc) (hr : meth.sig.returnType = some .long) (hlocks : meth.locks = false) (hK : va_K D vwCl tys s) (hS : va_S A s.heap H locs) (u : va_W) (hP : va_P D vwCl u H) (hD : va_D A u) (hp : post v u) (hdg : decode cc pc = .ok (.lreturn, 1)) : W p l e R s m args below meth c H locs cells slots (MQ below (va_Ql post (my_B D tys A) A) args s cells slots A) (F0 m pc ls [.long v]) :=
  W.lret hx hb hr (fun t ht hW => ⟨⟨v, u, rfl, hp, by rw [ht]; exact hP, va_K.moved hW.alike hK, hD⟩, hS.F ht⟩) hS.2.2 hdg hlocks
theorem my_retV {post : va_W → Prop} (hx : p.tables.exec = Jvm.exec) (hb : c.code = cc) (hr : meth.sig.returnType = none) (hlocks : meth.locks = false) (hK : va_K D vwCl tys s) (hS : va_S A s.heap H locs) (u : va_W) (hP : va_P D vwCl u H) (hD : va_D A u) (hp : post u) (hdg : decode cc pc = .ok (.return_, 1)) : W p l e R s m args below meth c H locs cells slots (MQ below (va_Qv post (my_B D tys A) A) args s cells slots A) (F0 m pc ls []) :=
  W.vret hx hb hr (fun t ht hW => ⟨⟨u, rfl, hp, by rw [ht]; exact hP, va_K.moved hW.alike hK, hD⟩, hS.F ht⟩) hS.2.2 hdg hlocks
theorem my_rpI {post : Int32 → Prop} {v : Int32} (hx : p.tables.exec = Jvm.exec) (hb : c.code = cc) (hr : meth.sig.returnType = some .int) (hlocks : meth.locks = false) (hp : post v) (hdg : decode cc pc = .ok (.ireturn, 1)) : W p l e R s m args below meth c s.heap [] 0 0 (MQ below (vp_Si post) args s 0 0 (fun _ => False)) (F0 m pc ls [.int v]) :=
  W.iret hx hb hr (fun t ht _ => ⟨v, rfl, hp, ht⟩) (fun _ h => nomatch h) hdg hlocks
theorem my_rpZ {post : Int32 → Prop} {v : Int32} (hx : p.tables.exec = Jvm.exec) (hb : c.code = cc) (hr : meth.sig.returnType = some .boolean) (hlocks : meth.locks = false) (hn : narrow .boolean (.int v) = .int v) (hp : post v) (hdg : decode cc pc = .ok (.ireturn, 1)) : W p l e R s m args below meth c s.heap [] 0 0 (MQ below (vp_Si post) args s 0 0 (fun _ => False)) (F0 m pc ls [.int v]) :=
  W.zret hx hb hr hn (fun t ht _ => ⟨v, rfl, hp, ht⟩) (fun _ h => nomatch h) hdg hlocks
theorem my_rpL {post : Int64 → Prop} {v : Int64} (hx : p.tables.exec = Jvm.exec) (hb : c.code = cc) (hr : meth.sig.returnType = some .long) (hlocks : meth.locks = false) (hp : post v) (hdg : decode cc pc = .ok (.lreturn, 1)) : W p l e R s m args below meth c s.heap [] 0 0 (MQ below (vp_Sl post) args s 0 0 (fun _ => False)) (F0 m pc ls [.long v]) :=
  W.lret hx hb hr (fun t ht _ => ⟨v, rfl, hp, ht⟩) (fun _ h => nomatch h) hdg hlocks
/-- calls: what the callee is handed -/
theorem my_blind {av : List Value} {pre : va_W} {sz : Nat} : FrameBlind (va_Pc av (my_PC D tys pre sz)) := fun a U g mk q => by
  obtain ⟨q0, q1, qP, qK, qD, qN⟩ := q
  exact ⟨q0, q1, qP, va_K.moved (u := U) (U := U.calling g mk a) (Vm.Alike.refl U.vm) qK, qD, nw.same (u := U) (U := U.calling g mk a) rfl qN⟩
theorem my_blindP {av : List Value} {pre : va_W} : FrameBlind (va_Pc av (my_PP D tys pre)) := fun a U g mk q => by
  obtain ⟨q0, qP, qK, qN⟩ := q
  exact ⟨q0, qP, va_K.moved (u := U) (U := U.calling g mk a) (Vm.Alike.refl U.vm) qK, nw.same (u := U) (U := U.calling g mk a) rfl qN⟩
variable {own C : String} {index n maxL nL : Nat} {y : MethodName} {bytes : ByteArray} {ret : Option FieldType} {ws Ts : List Cond} {rm : Room} {b : Nat} {As st0 : List Value} {ci : Nat} {q9 : vw_C} {fs : List Value} {Qc : Array Value → State → Outcome → State → Prop}
theorem my_cV (S : CallFix p m c cc nL s args Ts own) (cw : CallW R s args own C index y bytes maxL ret ws rm rm.cells rm.slots n) (hN : nw s) (hK : va_K D vwCl tys s) (hP : va_P D vwCl W0 H) (hD : va_D A W0) (isC : List Nat) (hC : isC.map (fun i => W0[i]?) = wc.map some) (hnd : va_nd isC = true) (hP9 : isC.filterMap (fun i => W0[i]?) = wc) (q0 : Nat) (hc : vwCl[ci]? = some q9) (hq9 : q9.1 = C) (he : W0[q0]? = some (b, .inr (ci, fs)))
    (hn : As.length = n) (hsz : ls.size = nL) (hst : st0 = As.reverse ++ .ref b :: rest) (hroom : (rest.map fun v => v.category).sum ≤ 8) (hdg : decode cc pc = .ok (.invokevirtual index, 3)) (hf : cells + rm.cells ≤ R.cells ∧ slots + rm.slots ≤ R.slots)
    (hM : Met l y ws rm (va_Pc (.ref b :: As) (my_PC D tys wc H.size)) Qc rm.cells rm.slots (va_A wc H.size)) : va_Run p l e R s m args below meth c H locs cells slots rm.cells rm.slots (F0 m pc ls st0) rest (Qc (Value.ref b :: As).toArray) (va_A wc H.size) := by
  subst hq9
  exact va_runV S hM cw ⟨my_blind, va_recv hK hP hc he, fun U hU hW => ⟨rfl, by rw [hU], by rw [hU]; exact hP.sub isC hP9, va_K.moved hW.alike hK, (hD.sub isC hnd hC).weaken (fun _ _ _ _ => trivial), nw.warm hW hN⟩⟩ rfl hn hsz hst (lv_room hroom) hdg hf
theorem my_cS (S : CallFix p m c cc nL s args Ts own) (cw : CallB R s args own index y bytes maxL ret ws rm rm.cells rm.slots n ∧ (Cond.static y).before args s = true) (hN : nw s) (hK : va_K D vwCl tys s) (hP : va_P D vwCl W0 H) (hD : va_D A W0) (isC : List Nat) (hC : isC.map (fun i => W0[i]?) = wc.map some) (hnd : va_nd isC = true) (hP9 : isC.filterMap (fun i => W0[i]?) = wc)
    (hn : As.length = n) (hsz : ls.size = nL) (hst : st0 = As.reverse ++ rest) (hroom : (rest.map fun v => v.category).sum ≤ 8) (hdg : decode cc pc = .ok (.invokestatic index, 3)) (hf : cells + rm.cells ≤ R.cells ∧ slots + rm.slots ≤ R.slots)
    (hM : Met l y ws rm (va_Pc As (my_PC D tys wc H.size)) Qc rm.cells rm.slots (va_A wc H.size)) : va_Run p l e R s m args below meth c H locs cells slots rm.cells rm.slots (F0 m pc ls st0) rest (Qc As.toArray) (va_A wc H.size) :=
  va_runS S hM cw ⟨my_blind, fun U hU hW => ⟨rfl, by rw [hU], by rw [hU]; exact hP.sub isC hP9, va_K.moved hW.alike hK, (hD.sub isC hnd hC).weaken (fun _ _ _ _ => trivial), nw.warm hW hN⟩⟩ rfl hn hsz hst (lv_room hroom) hdg hf
theorem my_cI (S : CallFix p m c cc nL s args Ts own) (cw : CallB R s args own index y bytes maxL none ws rm rm.cells rm.slots n ∧ y.name = "<init>" ∧ (Cond.instanceMethod y).before args s = true) (hN : nw s) (hK : va_K D vwCl tys s) (hP : va_P D vwCl W0 H) (hD : va_D A W0) (isC : List Nat) (hC : isC.map (fun i => W0[i]?) = wc.map some) (hnd : va_nd isC = true) (hP9 : isC.filterMap (fun i => W0[i]?) = wc)
    (hn : As.length = n) (hsz : ls.size = nL) (hst : st0 = As.reverse ++ .ref b :: rest) (hroom : (rest.map fun v => v.category).sum ≤ 8) (hdg : decode cc pc = .ok (.invokespecial index, 3)) (hf : cells + rm.cells ≤ R.cells ∧ slots + rm.slots ≤ R.slots)
    (hM : Met l y ws rm (va_Pc (.ref b :: As) (my_PC D tys wc H.size)) Qc rm.cells rm.slots (va_A wc H.size)) : va_Run p l e R s m args below meth c H locs cells slots rm.cells rm.slots (F0 m pc ls st0) rest (Qc (Value.ref b :: As).toArray) (va_A wc H.size) :=
  va_runI S hM cw ⟨my_blind, fun U hU hW => ⟨rfl, by rw [hU], by rw [hU]; exact hP.sub isC hP9, va_K.moved hW.alike hK, (hD.sub isC hnd hC).weaken (fun _ _ _ _ => trivial), nw.warm hW hN⟩⟩ rfl hn hsz hst (lv_room hroom) hdg hf
theorem my_cIN {host : String} (S : CallFix p m c cc nL s args Ts own) (cw : va_CN R s args own index y host bytes maxL none ws rm rm.cells rm.slots n ∧ y.name = "<init>" ∧ (Cond.instanceMethod y).before args s = true) (hN : nw s) (hK : va_K D vwCl tys s) (hP : va_P D vwCl W0 H) (hD : va_D A W0) (isC : List Nat) (hC : isC.map (fun i => W0[i]?) = wc.map some) (hnd : va_nd isC = true) (hP9 : isC.filterMap (fun i => W0[i]?) = wc)
    (hn : As.length = n) (hsz : ls.size = nL) (hst : st0 = As.reverse ++ .ref b :: rest) (hroom : (rest.map fun v => v.category).sum ≤ 8) (hdg : decode cc pc = .ok (.invokespecial index, 3)) (hf : cells + rm.cells ≤ R.cells ∧ slots + rm.slots ≤ R.slots)
    (hM : Met l y ws rm (va_Pc (.ref b :: As) (my_PC D tys wc H.size)) Qc rm.cells rm.slots (va_A wc H.size)) : va_Run p l e R s m args below meth c H locs cells slots rm.cells rm.slots (F0 m pc ls st0) rest (Qc (Value.ref b :: As).toArray) (va_A wc H.size) :=
  va_runIN S hM cw ⟨my_blind, fun U hU hW => ⟨rfl, by rw [hU], by rw [hU]; exact hP.sub isC hP9, va_K.moved hW.alike hK, (hD.sub isC hnd hC).weaken (fun _ _ _ _ => trivial), nw.warm hW hN⟩⟩ rfl hn hsz hst (lv_room hroom) hdg hf
theorem my_goV {post : va_W → Prop} {a : Array Value} {mc ms : Nat} (hP : va_P D vwCl W0 H) (hD : va_D A W0) (hS : va_S A s.heap H locs) (hA : ∀ q : Nat, s.heap.size ≤ q → A q) (isC isR : List Nat) (hC : isC.map (fun i => W0[i]?) = wc.map some) (hR : isR.map (fun i => W0[i]?) = wr.map some) (hn : va_nd isR = true) (hdis : ∀ i ∈ isR, i ∉ isC)
    (hr : va_Run p l e R s m args below meth c H locs cells slots mc ms (F0 m pc ls st0) rest (va_Qv post (my_B D tys (va_A wc H.size)) (va_A wc H.size) a) (va_A wc H.size))
    (kk : ∀ (u : va_W) (H1 : Heap) (locs1 : List Loc), post u → va_P D vwCl (wr ++ u) H1 → va_D A (wr ++ u) → va_S A s.heap H1 locs1 → W p l e R s m args below meth c H1 locs1 (cells + mc) (slots + ms) Q (F0 m (pc + 3) ls rest)) : W p l e R s m args below meth c H locs cells slots Q (F0 m pc ls st0) := by
  have hFc := va_free (wc := wc) hD hS hA isC hC
  refine va_callv hr hS (fun q _ h => hFc q h) hFc (fun u t H1 locs1 ht hvm hw hB hz hk hS1 => ?_)
  obtain ⟨hP1, -, hD1⟩ := hB
  rw [ht] at hP1
  obtain ⟨h1, h2⟩ := va_join hP hD isC isR hC hR hn hdis hk hFc hP1 hD1
  exact kk u H1 locs1 hw h1 h2 hS1
/-- calls that leave the heap as it is -/
theorem my_pV (S : CallFix p m c cc nL s args Ts own) (cw : CallW R s args own C index y bytes maxL ret ws rm 0 0 n) (hN : nw s) (hK : va_K D vwCl tys s) (hP : va_P D vwCl W0 H) (isC : List Nat) (hP9 : isC.filterMap (fun i => W0[i]?) = wc) (q0 : Nat) (hc : vwCl[ci]? = some q9) (hq9 : q9.1 = C) (he : W0[q0]? = some (b, .inr (ci, fs)))
    (hn : As.length = n) (hsz : ls.size = nL) (hst : st0 = As.reverse ++ .ref b :: rest) (hroom : (rest.map fun v => v.category).sum ≤ 8) (hdg : decode cc pc = .ok (.invokevirtual index, 3)) (hf : cells ≤ R.cells ∧ slots ≤ R.slots)
    (hM : Met l y ws rm (va_Pc (.ref b :: As) (my_PP D tys wc)) Qc 0 0 (fun _ => False)) : va_Run p l e R s m args below meth c H locs cells slots 0 0 (F0 m pc ls st0) rest (Qc (Value.ref b :: As).toArray) (fun _ => False) := by
  subst hq9
  exact va_runV S hM cw ⟨my_blindP, va_recv hK hP hc he, fun U hU hW => ⟨rfl, by rw [hU]; exact hP.sub isC hP9, va_K.moved hW.alike hK, nw.warm hW hN⟩⟩ rfl hn hsz hst (lv_room hroom) hdg hf
theorem my_pS (S : CallFix p m c cc nL s args Ts own) (cw : CallB R s args own index y bytes maxL ret ws rm 0 0 n ∧ (Cond.static y).before args s = true) (hN : nw s) (hK : va_K D vwCl tys s) (hP : va_P D vwCl W0 H) (isC : List Nat) (hP9 : isC.filterMap (fun i => W0[i]?) = wc)
    (hn : As.length = n) (hsz : ls.size = nL) (hst : st0 = As.reverse ++ rest) (hroom : (rest.map fun v => v.category).sum ≤ 8) (hdg : decode cc pc = .ok (.invokestatic index, 3)) (hf : cells ≤ R.cells ∧ slots ≤ R.slots)
    (hM : Met l y ws rm (va_Pc As (my_PP D tys wc)) Qc 0 0 (fun _ => False)) : va_Run p l e R s m args below meth c H locs cells slots 0 0 (F0 m pc ls st0) rest (Qc As.toArray) (fun _ => False) :=
  va_runS S hM cw ⟨my_blindP, fun U hU hW => ⟨rfl, by rw [hU]; exact hP.sub isC hP9, va_K.moved hW.alike hK, nw.warm hW hN⟩⟩ rfl hn hsz hst (lv_room hroom) hdg hf
theorem my_pSN {host : String} (S : CallFix p m c cc nL s args Ts own) (cw : va_CN R s args own index y host bytes maxL ret ws rm 0 0 n ∧ (Cond.static y).before args s = true ∧ True) (hN : nw s) (hK : va_K D vwCl tys s) (hP : va_P D vwCl W0 H) (isC : List Nat) (hP9 : isC.filterMap (fun i => W0[i]?) = wc)
    (hn : As.length = n) (hsz : ls.size = nL) (hst : st0 = As.reverse ++ rest) (hroom : (rest.map fun v => v.category).sum ≤ 8) (hdg : decode cc pc = .ok (.invokestatic index, 3)) (hf : cells ≤ R.cells ∧ slots ≤ R.slots)
    (hM : Met l y ws rm (va_Pc As (my_PP D tys wc)) Qc 0 0 (fun _ => False)) : va_Run p l e R s m args below meth c H locs cells slots 0 0 (F0 m pc ls st0) rest (Qc As.toArray) (fun _ => False) :=
  va_runSN S hM cw ⟨my_blindP, fun U hU hW => ⟨rfl, by rw [hU]; exact hP.sub isC hP9, va_K.moved hW.alike hK, nw.warm hW hN⟩⟩ rfl hn hsz hst (lv_room hroom) hdg hf
theorem my_gpI {post : Int32 → Prop} {a : Array Value} (hr : va_Run p l e R s m args below meth c H locs cells slots 0 0 (F0 m pc ls st0) rest (vp_Si post a) (fun _ => False)) (kk : ∀ r : Int32, post r → W p l e R s m args below meth c H locs cells slots Q (F0 m (pc + 3) ls (.int r :: rest))) : W p l e R s m args below meth c H locs cells slots Q (F0 m pc ls st0) := vp_callSi hr.run kk
theorem my_gpL {post : Int64 → Prop} {a : Array Value} (hr : va_Run p l e R s m args below meth c H locs cells slots 0 0 (F0 m pc ls st0) rest (vp_Sl post a) (fun _ => False)) (kk : ∀ r : Int64, post r → W p l e R s m args below meth c H locs cells slots Q (F0 m (pc + 3) ls (.long r :: rest))) : W p l e R s m args below meth c H locs cells slots Q (F0 m pc ls st0) := vp_callSl hr.run kk
/-- a new array whose class is known already -/
theorem my_newa (hexec : p.tables.exec = Jvm.exec) (hb : c.code = cc) {atype : ArrayType} (harr : (Cond.arrayClass (newarray.typeOf atype)).before args s = true) {ty : FieldType} (hty : newarray.typeOf atype = ty) (hK : va_K D vwCl tys s) (hP : va_P D vwCl W0 H) (hD : va_D A W0) (hS : va_S A s.heap H locs) (hA : ∀ q : Nat, s.heap.size ≤ q → A q)
    {i : Int32} {N' : Nat} {a0 : vp_A} {cA : ClassId} (hcA : s.vm.findClass ("[" ++ ty.toString) = some cA) (ha : ∀ cA : ClassId, vp_cell cA a0 = arrV cA N' (fun _ => defaultValue ty)) (hn : ¬ i < 0) (hN : i.toNatClampNeg = N') (hbytes : N' * componentBytes ty ≤ 536870912) (hcells : cells + 1 ≤ R.cells) (hslots : slots + N' ≤ R.slots) (hdg : decode cc pc = .ok (.newarray atype, 2))
    (kk : ∀ (q : Nat) (H1 : Heap), va_P D vwCl (W0 ++ [(q, .inl (cA, a0))]) H1 → va_D A (W0 ++ [(q, .inl (cA, a0))]) → va_S A s.heap H1 locs →
      W p l e R s m args below meth c H1 locs (cells + 1) (slots + N') Q (F0 m (pc + 2) ls (.ref q :: rest))) : W p l e R s m args below meth c H locs cells slots Q (F0 m pc ls (.int i :: rest)) := by
  subst hty
  refine va_newaK hexec hb harr rfl hdg rfl hn hN hbytes hcells hslots rfl fun H1 cB e1 z1 o1 hAr hNm => ?_
  cases Option.some.inj (hcA.symm.trans hNm)
  have hk : ∀ (k : Nat) (x : Nat × va_E), W0[k]? = some x → H1[x.1]? = H[x.1]? := fun k x hx => o1 x.1 ((hP k x hx).lt)
  refine kk H.size H1 ((hP.kept hk).app (fun k x hx => ?_)) (hD.push hP rfl (hA _ hS.1)) ⟨Nat.le_trans hS.1 (by omega), fun x h1 h2 => (o1 x (Nat.lt_of_lt_of_le h1 hS.1)).trans (hS.2.1 x h1 h2), hS.2.2⟩
  have hz : k < 1 := (List.getElem?_eq_some_iff.mp hx).1
  rw [show k = 0 by omega] at hx
  cases hx
  show H1[H.size]? = some (vp_cell _ _)
  rw [ha]
  exact e1
end Rows
/-- the array classes, by name -/
theorem my_cI0 {D : va_G} {cI cJ cK : ClassId} {s : State} (h : va_K D vwCl (tyIJ cI cJ cK) s) : s.vm.findClass ("[" ++ FieldType.int.toString) = some cI := (h.2 0 _ rfl).2
theorem my_cJ0 {D : va_G} {cI cJ cK : ClassId} {s : State} (h : va_K D vwCl (tyIJ cI cJ cK) s) : s.vm.findClass ("[" ++ FieldType.long.toString) = some cJ := (h.2 1 _ rfl).2
end MYK
