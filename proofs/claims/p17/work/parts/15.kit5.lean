section GSS
/-- cells laid anew at their places -/
def va_st (W0 : va_W) (is : List Nat) (u : va_W) : va_W := (is.zip u).foldl (fun w x => w.set x.1 x.2) W0
theorem st_at : ∀ {z : List (Nat × (Nat × va_E))} {W0 : va_W} {k : Nat} {q : Nat × va_E}, (z.foldl (fun w x => w.set x.1 x.2) W0)[k]? = some q → (∃ x, x ∈ z ∧ x.2 = q) ∨ (W0[k]? = some q ∧ ∀ x, x ∈ z → x.1 ≠ k)
  | [], W0, k, q, h => Or.inr ⟨h, fun x hx => absurd hx List.not_mem_nil⟩
  | y :: z, W0, k, q, h => by
    rcases st_at (z := z) (W0 := W0.set y.1 y.2) h with ⟨x, h1, h2⟩ | ⟨h1, h2⟩
    · exact Or.inl ⟨x, List.mem_cons_of_mem _ h1, h2⟩
    · by_cases e : y.1 = k
      · have h3 : k < W0.length := by
          have h4 := (List.getElem?_eq_some_iff.mp h1).1
          rwa [List.length_set] at h4
        rw [e, List.getElem?_set_self h3] at h1
        exact Or.inl ⟨y, List.mem_cons_self, Option.some.inj h1⟩
      · rw [List.getElem?_set_ne e] at h1
        exact Or.inr ⟨h1, fun x hx => (List.mem_cons.mp hx).elim (fun q => by rw [q]; exact e) (h2 x)⟩
theorem set_same {L : List Nat} {i v : Nat} (h : L[i]? = some v) : L.set i v = L := List.ext_getElem? (fun k => by
  by_cases e : i = k
  · subst e; rw [List.getElem?_set_self ((List.getElem?_eq_some_iff.mp h).1), h]
  · rw [List.getElem?_set_ne e])
theorem st_fst : ∀ {z : List (Nat × (Nat × va_E))} {W0 : va_W}, (∀ x, x ∈ z → (W0.map Prod.fst)[x.1]? = some x.2.1) → (z.foldl (fun w x => w.set x.1 x.2) W0).map Prod.fst = W0.map Prod.fst
  | [], _, _ => rfl
  | y :: z, W0, h => by
    have e : (W0.set y.1 y.2).map Prod.fst = W0.map Prod.fst := by
      rw [List.map_set]; exact set_same (h y List.mem_cons_self)
    show (z.foldl (fun w x => w.set x.1 x.2) (W0.set y.1 y.2)).map Prod.fst = _
    rw [st_fst (z := z) (W0 := W0.set y.1 y.2) (fun x hx => by rw [e]; exact h x (List.mem_cons_of_mem _ hx)), e]
theorem va_D_fst {A : Nat → Prop} {w w' : va_W} (e : w'.map Prod.fst = w.map Prod.fst) (h : va_D A w) : va_D A w' := by
  have key : ∀ (k : Nat) (q : Nat × va_E), w'[k]? = some q → ∃ p, w[k]? = some p ∧ p.1 = q.1 := fun k q hk => by
    have h1 : (w'.map Prod.fst)[k]? = some q.1 := by rw [List.getElem?_map, hk]; rfl
    rw [e, List.getElem?_map] at h1
    cases hw : w[k]? with
    | none => rw [hw] at h1; cases h1
    | some p => rw [hw] at h1; exact ⟨p, rfl, Option.some.inj h1⟩
  refine ⟨fun i j p q hi hj hpq => ?_, fun k q hk => ?_⟩
  · obtain ⟨a, a1, a2⟩ := key i p hi
    obtain ⟨b, b1, b2⟩ := key j q hj
    exact h.1 i j a b a1 b1 (by rw [a2, b2]; exact hpq)
  · obtain ⟨a, a1, a2⟩ := key k q hk
    rw [← a2]; exact h.2 k a a1
/-- behind a call: the callee's cells at their places, all others as they were -/
theorem va_joinS {A0 : Nat → Prop} {D : va_G} {cl : List vw_C} {ws wc u : va_W} {H H1 : Heap} (hP : va_P D cl ws H) (hD : va_D A0 ws) (isC : List Nat) (hC : isC.map (fun i => ws[i]?) = wc.map some) (hk : ∀ q : Nat, q < H.size → ¬ va_A wc H.size q → H1[q]? = H[q]?) (hP1 : va_P D cl u H1) (hu : u.map Prod.fst = wc.map Prod.fst) : va_P D cl (va_st ws isC u) H1 ∧ va_D A0 (va_st ws isC u) := by
  have hl : u.length = isC.length := by
    have h1 := congrArg List.length hu
    have h2 := congrArg List.length hC
    simp only [List.length_map] at h1 h2; omega
  have at' : ∀ (j i : Nat), isC[j]? = some i → ∃ y, wc[j]? = some y ∧ ws[i]? = some y := fun j i hj => by
    have h1 : (isC.map (fun i => ws[i]?))[j]? = some (ws[i]?) := by rw [List.getElem?_map, hj]; rfl
    rw [hC, List.getElem?_map] at h1
    cases hw : wc[j]? with
    | none => rw [hw] at h1; cases h1
    | some y => rw [hw] at h1; exact ⟨y, rfl, (Option.some.inj h1).symm⟩
  constructor
  · intro k q hq
    rcases st_at hq with ⟨x, hx, rfl⟩ | ⟨h1, h2⟩
    · obtain ⟨j, hj⟩ := List.getElem?_of_mem hx
      exact hP1 j x.2 (List.getElem?_zip_eq_some.mp hj).2
    · have hlt := (hP k q h1).lt
      refine (hP k q h1).kept (hk q.1 hlt (fun h => ?_))
      rcases h with ⟨j, e, hj⟩ | h
      · have hjl : j < isC.length := by
          have h3 := (List.getElem?_eq_some_iff.mp hj).1
          have h4 := congrArg List.length hC
          simp only [List.length_map] at h4; omega
        have hi := List.getElem?_eq_getElem hjl
        obtain ⟨y, y1, y2⟩ := at' j _ hi
        rw [hj] at y1
        cases y1
        have ek : isC[j] = k := hD.1 _ k _ q y2 h1 rfl
        have hul : j < u.length := by omega
        have hz : (isC.zip u)[j]? = some (isC[j], u[j]) := List.getElem?_zip_eq_some.mpr ⟨hi, List.getElem?_eq_getElem hul⟩
        exact h2 _ (List.mem_of_getElem? hz) ek
      · omega
  · refine va_D_fst (st_fst (fun x hx => ?_)) hD
    obtain ⟨j, hj⟩ := List.getElem?_of_mem hx
    have hj2 := List.getElem?_zip_eq_some.mp hj
    obtain ⟨y, y1, y2⟩ := at' j _ hj2.1
    have h3 : (u.map Prod.fst)[j]? = some x.2.1 := by rw [List.getElem?_map, hj2.2]; rfl
    rw [hu, List.getElem?_map, y1] at h3
    rw [List.getElem?_map, y2]; exact h3
variable {p : Program} {l : Launch} {e : Env} {R : Room} {s : State} {m : MethodId} {args : Array Value} {below : List Frame} {meth : Method} {c : Code} {H : Heap} {locs : List Loc} {cells slots : Nat} {Q : State → Prop}
variable {pc : Nat} {ls : Array Slot} {rest st0 : List Value} {D : va_G} {tys : List (ClassId × FieldType)} {A : Nat → Prop} {W0 wc : va_W}
theorem my_goIS {post : Int32 → va_W → Prop} {a : Array Value} {mc ms : Nat} (hP : va_P D vwCl W0 H) (hD : va_D A W0) (hS : va_S A s.heap H locs) (hA : ∀ q : Nat, s.heap.size ≤ q → A q) (isC : List Nat) (hC : isC.map (fun i => W0[i]?) = wc.map some)
    (hr : va_Run p l e R s m args below meth c H locs cells slots mc ms (F0 m pc ls st0) rest (va_Qi post (my_B D tys (va_A wc H.size)) (va_A wc H.size) a) (va_A wc H.size))
    (kk : ∀ (r : Int32) (u : va_W) (H1 : Heap) (locs1 : List Loc), post r u → (u.map Prod.fst = wc.map Prod.fst → va_P D vwCl (va_st W0 isC u) H1 ∧ va_D A (va_st W0 isC u)) → va_S A s.heap H1 locs1 → W p l e R s m args below meth c H1 locs1 (cells + mc) (slots + ms) Q (F0 m (pc + 3) ls (.int r :: rest))) : W p l e R s m args below meth c H locs cells slots Q (F0 m pc ls st0) := by
  have hFc := va_free (wc := wc) hD hS hA isC hC
  refine va_calli hr hS (fun q _ h => hFc q h) hFc (fun r u t H1 locs1 ht hvm hw hB hz hk hS1 => ?_)
  obtain ⟨hP1, -, hD1⟩ := hB
  rw [ht] at hP1
  exact kk r u H1 locs1 hw (fun hu => va_joinS hP hD isC hC hk hP1 hu) hS1
theorem my_goLS {post : Int64 → va_W → Prop} {a : Array Value} {mc ms : Nat} (hP : va_P D vwCl W0 H) (hD : va_D A W0) (hS : va_S A s.heap H locs) (hA : ∀ q : Nat, s.heap.size ≤ q → A q) (isC : List Nat) (hC : isC.map (fun i => W0[i]?) = wc.map some)
    (hr : va_Run p l e R s m args below meth c H locs cells slots mc ms (F0 m pc ls st0) rest (va_Ql post (my_B D tys (va_A wc H.size)) (va_A wc H.size) a) (va_A wc H.size))
    (kk : ∀ (r : Int64) (u : va_W) (H1 : Heap) (locs1 : List Loc), post r u → (u.map Prod.fst = wc.map Prod.fst → va_P D vwCl (va_st W0 isC u) H1 ∧ va_D A (va_st W0 isC u)) → va_S A s.heap H1 locs1 → W p l e R s m args below meth c H1 locs1 (cells + mc) (slots + ms) Q (F0 m (pc + 3) ls (.long r :: rest))) : W p l e R s m args below meth c H locs cells slots Q (F0 m pc ls st0) := by
  have hFc := va_free (wc := wc) hD hS hA isC hC
  refine va_calll hr hS (fun q _ h => hFc q h) hFc (fun r u t H1 locs1 ht hvm hw hB hz hk hS1 => ?_)
  obtain ⟨hP1, -, hD1⟩ := hB
  rw [ht] at hP1
  exact kk r u H1 locs1 hw (fun hu => va_joinS hP hD isC hC hk hP1 hu) hS1
theorem my_goVS {post : va_W → Prop} {a : Array Value} {mc ms : Nat} (hP : va_P D vwCl W0 H) (hD : va_D A W0) (hS : va_S A s.heap H locs) (hA : ∀ q : Nat, s.heap.size ≤ q → A q) (isC : List Nat) (hC : isC.map (fun i => W0[i]?) = wc.map some)
    (hr : va_Run p l e R s m args below meth c H locs cells slots mc ms (F0 m pc ls st0) rest (va_Qv post (my_B D tys (va_A wc H.size)) (va_A wc H.size) a) (va_A wc H.size))
    (kk : ∀ (u : va_W) (H1 : Heap) (locs1 : List Loc), post u → (u.map Prod.fst = wc.map Prod.fst → va_P D vwCl (va_st W0 isC u) H1 ∧ va_D A (va_st W0 isC u)) → va_S A s.heap H1 locs1 → W p l e R s m args below meth c H1 locs1 (cells + mc) (slots + ms) Q (F0 m (pc + 3) ls rest)) : W p l e R s m args below meth c H locs cells slots Q (F0 m pc ls st0) := by
  have hFc := va_free (wc := wc) hD hS hA isC hC
  refine va_callv hr hS (fun q _ h => hFc q h) hFc (fun u t H1 locs1 ht hvm hw hB hz hk hS1 => ?_)
  obtain ⟨hP1, -, hD1⟩ := hB
  rw [ht] at hP1
  exact kk u H1 locs1 hw (fun hu => va_joinS hP hD isC hC hk hP1 hu) hS1
end GSS
