section GSQ
variable {p : Program} {l : Launch} {e : Env} {R : Room} {s : State} {m : MethodId} {args : Array Value} {below : List Frame} {meth : Method} {c : Code} {H : Heap} {locs : List Loc} {cells slots : Nat} {Q : State → Prop}
variable {cc : ByteArray} {pc : Nat} {ls : Array Slot} {rest : List Value} {D : va_G} {cI cJ cK : ClassId} {A : Nat → Prop} {W0 : va_W}
theorem my_eqa {x y : Value} (h : x = y) (k : W p l e R s m args below meth c H locs cells slots Q (F0 m pc ls (y :: rest))) : W p l e R s m args below meth c H locs cells slots Q (F0 m pc ls (x :: rest)) := by
  subst h; exact k
/-- a row of rows is read -/
theorem my_aald {a n : Nat} {f : Nat → Option Nat} {i : Int32} (hexec : p.tables.exec = Jvm.exec) (hb : c.code = cc) (hK : va_K D vwCl (tyIJ cI cJ cK) s) (hP : va_P D vwCl W0 H) (q0 : Nat) (ha : W0[q0]? = some (a, .inl (cK, n, .inr (.inr (.inr (.inr f)))))) (hin : vp_in i n) (hdg : decode cc pc = .ok (.aaload, 1))
    (kk : W p l e R s m args below meth c H locs cells slots Q (F0 m (pc + 1) ls (va_rf (f i.toNatClampNeg) :: rest))) : W p l e R s m args below meth c H locs cells slots Q (F0 m pc ls (.int i :: .ref a :: rest)) := by
  have hlt : i.toNatClampNeg < n := Nat.not_le.mp fun q => hin (Or.inr q)
  exact W.aald (v := va_rf (f i.toNatClampNeg)) (ty := .array .long) hexec hb (hP q0 _ ha) ((hK.2 2 _ rfl).1 n (fun j => va_rf (f j))) rfl (fun q => by cases q) (by show ¬ (i < 0 ∨ (arrV _ _ _).slots.size ≤ _); rw [arrV_size]; exact hin) (by show (arrV _ _ _).slots[_]? = _; rw [arrV_read _ _ hlt]) rfl rfl hdg kk
theorem my_rows8 (r : Nat → Nat) : (fun i => if i < 8 then some (r i) else none) = fun j => ([r 0, r 1, r 2, r 3, r 4, r 5, r 6, r 7] : List Nat)[j]? := by
  funext i
  match i with
  | 0 => rfl
  | 1 => rfl
  | 2 => rfl
  | 3 => rfl
  | 4 => rfl
  | 5 => rfl
  | 6 => rfl
  | 7 => rfl
  | n + 8 => rw [if_neg (by omega)]; simp
/-- eight rows of 64 longs, made at once -/
theorem my_mna {own : String} {index : Nat} (hexec : p.tables.exec = Jvm.exec) (hb : c.code = cc) (hown : s.vm.findClass own = some m.cls) (hclink : (Cond.classLink own index "[[J").before args s = true) (hN : nw s) (harr : (Cond.arrayClass .long).before args s = true) (hK : va_K D vwCl (tyIJ cI cJ cK) s) (hP : va_P D vwCl W0 H) (hD : va_D A W0) (hS : va_S A s.heap H locs) (hA : ∀ q : Nat, s.heap.size ≤ q → A q)
    (hcells : cells + (1 + 8) ≤ R.cells) (hslots : slots + (8 + 8 * 64) ≤ R.slots) (hdg : decode cc pc = .ok (.multianewarray index 2, 4))
    (kk : ∀ (q w0 w1 w2 w3 w4 w5 w6 w7 : Nat) (H1 : Heap), va_P D vwCl (W0 ++ [(q, .inl (cK, 8, .inr (.inr (.inr (.inr (fun j => ([w0, w1, w2, w3, w4, w5, w6, w7] : List Nat)[j]?)))))), (w0, .inl (cJ, 64, .inr (.inl (fun _ => (0 : Int64))))), (w1, .inl (cJ, 64, .inr (.inl (fun _ => (0 : Int64))))), (w2, .inl (cJ, 64, .inr (.inl (fun _ => (0 : Int64))))), (w3, .inl (cJ, 64, .inr (.inl (fun _ => (0 : Int64))))), (w4, .inl (cJ, 64, .inr (.inl (fun _ => (0 : Int64))))), (w5, .inl (cJ, 64, .inr (.inl (fun _ => (0 : Int64))))), (w6, .inl (cJ, 64, .inr (.inl (fun _ => (0 : Int64))))), (w7, .inl (cJ, 64, .inr (.inl (fun _ => (0 : Int64)))))]) H1 → va_D A (W0 ++ [(q, .inl (cK, 8, .inr (.inr (.inr (.inr (fun j => ([w0, w1, w2, w3, w4, w5, w6, w7] : List Nat)[j]?)))))), (w0, .inl (cJ, 64, .inr (.inl (fun _ => (0 : Int64))))), (w1, .inl (cJ, 64, .inr (.inl (fun _ => (0 : Int64))))), (w2, .inl (cJ, 64, .inr (.inl (fun _ => (0 : Int64))))), (w3, .inl (cJ, 64, .inr (.inl (fun _ => (0 : Int64))))), (w4, .inl (cJ, 64, .inr (.inl (fun _ => (0 : Int64))))), (w5, .inl (cJ, 64, .inr (.inl (fun _ => (0 : Int64))))), (w6, .inl (cJ, 64, .inr (.inl (fun _ => (0 : Int64))))), (w7, .inl (cJ, 64, .inr (.inl (fun _ => (0 : Int64)))))]) → va_S A s.heap H1 locs →
      W p l e R s m args below meth c H1 locs (cells + 1 + 8) (slots + 8 + 8 * 64) Q (F0 m (pc + 4) ls (.ref q :: rest))) : W p l e R s m args below meth c H locs cells slots Q (F0 m pc ls (.int 64 :: .int 8 :: rest)) := by
  have hP0 : va_P D vwCl (W0 ++ va_pl [] (fun _ => .inr (0, []))) H := by rw [show va_pl [] (fun _ => (.inr (0, []) : va_E)) = [] from rfl, List.append_nil]; exact hP
  have hD0 : va_D A (W0 ++ va_pl [] (fun _ => .inr (0, []))) := by rw [show va_pl [] (fun _ => (.inr (0, []) : va_E)) = [] from rfl, List.append_nil]; exact hD
  refine va_mna (X := W0) (L := []) (ty := .long) (n := 8) (k := 64) (N' := 8) (K' := 64) (z := (64, .inr (.inl (fun _ => (0 : Int64))))) hexec hb hown hclink hN.2.2 harr (my_cJ0 hK) hK hP0 hD0 hS hA (by decide +kernel) (by decide +kernel) (by decide +kernel) (by decide +kernel) (Nat.le_of_ble_eq_true rfl) (Nat.le_of_ble_eq_true rfl) (Nat.le_of_ble_eq_true rfl) rfl rfl hcells hslots (fun _ => rfl) hdg (fun q r cA H1 hr1 hr2 hK9 hP1 hD1 hS1 => ?_)
  have hc : cA = cK := by
    have h1 : s.vm.findClass ("[" ++ (FieldType.array FieldType.long).toString) = some cA := (hK9.2 3 _ rfl).2
    have h2 : s.vm.findClass ("[" ++ (FieldType.array FieldType.long).toString) = some cK := (hK.2 2 _ rfl).2
    exact Option.some.inj (h1.symm.trans h2)
  subst hc
  rw [← vr_rows (fun a _ h => by cases h), my_rows8 r] at hP1 hD1
  exact kk q (r 0) (r 1) (r 2) (r 3) (r 4) (r 5) (r 6) (r 7) H1 (by rw [List.append_assoc] at hP1; exact hP1) (by rw [List.append_assoc] at hD1; exact hD1) hS1
theorem my_clamp {x : Int32} (h : 0 ≤ x.toInt) : x.toNatClampNeg = x.toInt.toNat := by
  obtain ⟨w, e, hw⟩ := my_natE h
  have hlt : x.toInt < 2147483648 := Int32.toInt_lt x
  rw [← hw, e, nI_clamp (by omega)]; rfl
theorem my_updL0 (f : Nat → Int64) (v : Int64) : vp_updL f (0 : Int32).toNatClampNeg v 0 = v := by
  rw [show (0 : Int32).toNatClampNeg = 0 by decide +kernel]; unfold vp_updL; simp
end GSQ
