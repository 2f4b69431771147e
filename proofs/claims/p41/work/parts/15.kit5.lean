section GSS
/-- cells laid anew at their places: for each place the callee's cell, or the one that was there -/
def va_pk : List (Option Nat) → va_W → va_W → va_W
  | [], ws, _ => ws
  | none :: s, w :: ws, u => w :: va_pk s ws u
  | some j :: s, w :: ws, u => (match u[j]? with | some x => x | none => w) :: va_pk s ws u
  | _ :: _, [], _ => []
def va_ck : Nat → List (Option Nat) → List Nat → Bool
  | k, [], is => is.all (fun i => Nat.blt i k)
  | k, none :: s, is => is.all (fun i => !Nat.beq i k) && va_ck (k + 1) s is
  | k, some j :: s, is => (match is[j]? with | some i => Nat.beq i k | none => false) && va_ck (k + 1) s is
theorem pk_at {is : List Nat} {u : va_W} (hl : u.length = is.length) : ∀ {s : List (Option Nat)} {ws : va_W} {k m : Nat} {q : Nat × va_E}, va_ck k s is = true → (va_pk s ws u)[m]? = some q → (∃ j : Nat, u[j]? = some q ∧ is[j]? = some (k + m)) ∨ (ws[m]? = some q ∧ k + m ∉ is)
  | [], ws, k, m, q, hc, h => by
    have hc' : is.all (fun i => Nat.blt i k) = true := hc
    refine Or.inr ⟨h, fun hm => ?_⟩
    have h1 := List.all_eq_true.mp hc' _ hm
    rw [Nat.blt_eq] at h1
    omega
  | none :: s, [], k, m, q, hc, h => by
    have h' : ([] : va_W)[m]? = some q := h
    simp at h'
  | some j :: s, [], k, m, q, hc, h => by
    have h' : ([] : va_W)[m]? = some q := h
    simp at h'
  | none :: s, w :: ws, k, 0, q, hc, h => by
    have hc' : (is.all (fun i => !Nat.beq i k) && va_ck (k + 1) s is) = true := hc
    rw [Bool.and_eq_true] at hc'
    refine Or.inr ⟨h, fun hm => ?_⟩
    have h1 := List.all_eq_true.mp hc'.1 _ hm
    simp at h1
  | none :: s, w :: ws, k, m + 1, q, hc, h => by
    have hc' : (is.all (fun i => !Nat.beq i k) && va_ck (k + 1) s is) = true := hc
    rw [Bool.and_eq_true] at hc'
    have h1 : (va_pk s ws u)[m]? = some q := h
    rcases pk_at hl hc'.2 h1 with ⟨j, j1, j2⟩ | ⟨j1, j2⟩
    · exact Or.inl ⟨j, j1, by rw [show k + (m + 1) = k + 1 + m by omega]; exact j2⟩
    · exact Or.inr ⟨j1, by rw [show k + (m + 1) = k + 1 + m by omega]; exact j2⟩
  | some j :: s, w :: ws, k, 0, q, hc, h => by
    have hc' : ((match is[j]? with | some i => Nat.beq i k | none => false) && va_ck (k + 1) s is) = true := hc
    rw [Bool.and_eq_true] at hc'
    have h1 : some (match u[j]? with | some x => x | none => w) = some q := h
    cases hi : is[j]? with
    | none => rw [hi] at hc'; cases hc'.1
    | some i =>
      rw [hi] at hc'
      have e : i = k := Nat.eq_of_beq_eq_true hc'.1
      have hjl : j < u.length := by
        have := (List.getElem?_eq_some_iff.mp hi).1
        omega
      rw [List.getElem?_eq_getElem hjl] at h1
      exact Or.inl ⟨j, by rw [List.getElem?_eq_getElem hjl]; exact h1, hi.trans (congrArg some e)⟩
  | some j :: s, w :: ws, k, m + 1, q, hc, h => by
    have hc' : ((match is[j]? with | some i => Nat.beq i k | none => false) && va_ck (k + 1) s is) = true := hc
    rw [Bool.and_eq_true] at hc'
    have h1 : (va_pk s ws u)[m]? = some q := h
    rcases pk_at hl hc'.2 h1 with ⟨j, j1, j2⟩ | ⟨j1, j2⟩
    · exact Or.inl ⟨j, j1, by rw [show k + (m + 1) = k + 1 + m by omega]; exact j2⟩
    · exact Or.inr ⟨j1, by rw [show k + (m + 1) = k + 1 + m by omega]; exact j2⟩
theorem pk_fst {is : List Nat} {u W0 : va_W} (hl : u.length = is.length) (hf : ∀ (j i : Nat) (x : Nat × va_E), is[j]? = some i → u[j]? = some x → ∃ y, W0[i]? = some y ∧ y.1 = x.1) : ∀ {s : List (Option Nat)} {ws : va_W} {k : Nat}, va_ck k s is = true → (∀ m, ws[m]? = W0[k + m]?) → (va_pk s ws u).map Prod.fst = ws.map Prod.fst
  | [], ws, k, _, _ => rfl
  | none :: s, [], k, _, _ => rfl
  | some j :: s, [], k, _, _ => rfl
  | none :: s, w :: ws, k, hc, hw => by
    have hc' : (is.all (fun i => !Nat.beq i k) && va_ck (k + 1) s is) = true := hc
    rw [Bool.and_eq_true] at hc'
    have ih := pk_fst hl hf (s := s) (ws := ws) (k := k + 1) hc'.2 (fun m => by
      have h9 := hw (m + 1)
      rw [List.getElem?_cons_succ] at h9
      rw [h9, show k + (m + 1) = k + 1 + m by omega])
    show w.1 :: (va_pk s ws u).map Prod.fst = w.1 :: ws.map Prod.fst
    rw [ih]
  | some j :: s, w :: ws, k, hc, hw => by
    have hc' : ((match is[j]? with | some i => Nat.beq i k | none => false) && va_ck (k + 1) s is) = true := hc
    rw [Bool.and_eq_true] at hc'
    have ih := pk_fst hl hf (s := s) (ws := ws) (k := k + 1) hc'.2 (fun m => by
      have h9 := hw (m + 1)
      rw [List.getElem?_cons_succ] at h9
      rw [h9, show k + (m + 1) = k + 1 + m by omega])
    show (match u[j]? with | some x => x | none => w).1 :: (va_pk s ws u).map Prod.fst = w.1 :: ws.map Prod.fst
    rw [ih]
    cases hi : is[j]? with
    | none => rw [hi] at hc'; cases hc'.1
    | some i =>
      rw [hi] at hc'
      have e : i = k := Nat.eq_of_beq_eq_true hc'.1
      have hjl : j < u.length := by
        have := (List.getElem?_eq_some_iff.mp hi).1
        omega
      obtain ⟨y, y1, y2⟩ := hf j i _ hi (List.getElem?_eq_getElem hjl)
      have h0 := hw 0
      rw [List.getElem?_cons_zero, Nat.add_zero, ← e, y1] at h0
      rw [List.getElem?_eq_getElem hjl, Option.some.inj h0, y2]
theorem va_D_fst {A : Nat → Prop} {w w' : va_W} (e : w'.map Prod.fst = w.map Prod.fst) (h : va_D A w) : va_D A w' := by
  have key : ∀ (k : Nat) (q : Nat × va_E), w'[k]? = some q → ∃ p, w[k]? = some p ∧ p.1 = q.1 := fun k q hk => by
    have h1 : (w'.map Prod.fst)[k]? = some q.1 := by rw [List.getElem?_map, hk]; rfl
    rw [e, List.getElem?_map] at h1
    cases hw : w[k]? with
    | none => rw [hw] at h1; cases h1
    | some p => rw [hw] at h1; exact ⟨p, rfl, Option.some.inj h1⟩
  refine ⟨fun i j p q hi hj hpq => ?_, fun k q hk => ?_⟩
  · obtain ⟨a, a1, a2⟩ := key i p hi
    obtain ⟨b, b1, b2⟩ := key j q hj
    exact h.1 i j a b a1 b1 (by rw [a2, b2]; exact hpq)
  · obtain ⟨a, a1, a2⟩ := key k q hk
    rw [← a2]; exact h.2 k a a1
/-- behind a call: the callee's cells at their places, all others as they were -/
theorem va_joinS {A0 : Nat → Prop} {D : va_G} {cl : List vw_C} {ws wc u : va_W} {H H1 : Heap} (hP : va_P D cl ws H) (hD : va_D A0 ws) (isC : List Nat) (hC : isC.map (fun i => ws[i]?) = wc.map some) {sel : List (Option Nat)} (hck : va_ck 0 sel isC = true) (hk : ∀ q : Nat, q < H.size → ¬ va_A wc H.size q → H1[q]? = H[q]?) (hP1 : va_P D cl u H1) (hu : u.map Prod.fst = wc.map Prod.fst) : va_P D cl (va_pk sel ws u) H1 ∧ va_D A0 (va_pk sel ws u) := by
  have hl : u.length = isC.length := by
    have h1 := congrArg List.length hu
    have h2 := congrArg List.length hC
    simp only [List.length_map] at h1 h2; omega
  have at' : ∀ (j i : Nat), isC[j]? = some i → ∃ y, wc[j]? = some y ∧ ws[i]? = some y := fun j i hj => by
    have h1 : (isC.map (fun i => ws[i]?))[j]? = some (ws[i]?) := by rw [List.getElem?_map, hj]; rfl
    rw [hC, List.getElem?_map] at h1
    cases hw : wc[j]? with
    | none => rw [hw] at h1; cases h1
    | some y => rw [hw] at h1; exact ⟨y, rfl, (Option.some.inj h1).symm⟩
  constructor
  · intro k q hq
    rcases pk_at hl hck hq with ⟨j, j1, -⟩ | ⟨h1, h2⟩
    · exact hP1 j q j1
    · rw [Nat.zero_add] at h2
      have hlt := (hP k q h1).lt
      refine (hP k q h1).kept (hk q.1 hlt (fun h => ?_))
      rcases h with ⟨j, e, hj⟩ | h
      · have hjl : j < isC.length := by
          have h3 := (List.getElem?_eq_some_iff.mp hj).1
          have h4 := congrArg List.length hC
          simp only [List.length_map] at h4; omega
        have hi := List.getElem?_eq_getElem hjl
        obtain ⟨y, y1, y2⟩ := at' j _ hi
        rw [hj] at y1
        cases y1
        have ek : isC[j] = k := hD.1 _ k _ q y2 h1 rfl
        exact h2 (by rw [← ek]; exact List.getElem_mem hjl)
      · omega
  · refine va_D_fst (pk_fst (W0 := ws) hl (fun j i x hj hx => ?_) hck (fun m => by rw [Nat.zero_add])) hD
    obtain ⟨y, y1, y2⟩ := at' j i hj
    have h3 : (u.map Prod.fst)[j]? = some x.1 := by rw [List.getElem?_map, hx]; rfl
    rw [hu, List.getElem?_map, y1] at h3
    exact ⟨y, y2, Option.some.inj h3⟩
variable {p : Program} {l : Launch} {e : Env} {R : Room} {s : State} {m : MethodId} {args : Array Value} {below : List Frame} {meth : Method} {c : Code} {H : Heap} {locs : List Loc} {cells slots : Nat} {Q : State → Prop}
variable {pc : Nat} {ls : Array Slot} {rest st0 : List Value} {D : va_G} {tys : List (ClassId × FieldType)} {A : Nat → Prop} {W0 wc : va_W}
theorem my_goIS {post : Int32 → va_W → Prop} {a : Array Value} {mc ms : Nat} (hP : va_P D vwCl W0 H) (hD : va_D A W0) (hS : va_S A s.heap H locs) (hA : ∀ q : Nat, s.heap.size ≤ q → A q) (isC : List Nat) (hC : isC.map (fun i => W0[i]?) = wc.map some) (sel : List (Option Nat)) (hck : va_ck 0 sel isC = true)
    (hr : va_Run p l e R s m args below meth c H locs cells slots mc ms (F0 m pc ls st0) rest (va_Qi post (my_B D tys (va_A wc H.size)) (va_A wc H.size) a) (va_A wc H.size))
    (kk : ∀ (r : Int32) (u : va_W) (H1 : Heap) (locs1 : List Loc), post r u → (u.map Prod.fst = wc.map Prod.fst → va_P D vwCl (va_pk sel W0 u) H1 ∧ va_D A (va_pk sel W0 u)) → va_S A s.heap H1 locs1 → W p l e R s m args below meth c H1 locs1 (cells + mc) (slots + ms) Q (F0 m (pc + 3) ls (.int r :: rest))) : W p l e R s m args below meth c H locs cells slots Q (F0 m pc ls st0) := by
  have hFc := va_free (wc := wc) hD hS hA isC hC
  refine va_calli hr hS (fun q _ h => hFc q h) hFc (fun r u t H1 locs1 ht hvm hw hB hz hk hS1 => ?_)
  obtain ⟨hP1, -, hD1⟩ := hB
  rw [ht] at hP1
  exact kk r u H1 locs1 hw (fun hu => va_joinS hP hD isC hC hck hk hP1 hu) hS1
theorem my_goLS {post : Int64 → va_W → Prop} {a : Array Value} {mc ms : Nat} (hP : va_P D vwCl W0 H) (hD : va_D A W0) (hS : va_S A s.heap H locs) (hA : ∀ q : Nat, s.heap.size ≤ q → A q) (isC : List Nat) (hC : isC.map (fun i => W0[i]?) = wc.map some) (sel : List (Option Nat)) (hck : va_ck 0 sel isC = true)
    (hr : va_Run p l e R s m args below meth c H locs cells slots mc ms (F0 m pc ls st0) rest (va_Ql post (my_B D tys (va_A wc H.size)) (va_A wc H.size) a) (va_A wc H.size))
    (kk : ∀ (r : Int64) (u : va_W) (H1 : Heap) (locs1 : List Loc), post r u → (u.map Prod.fst = wc.map Prod.fst → va_P D vwCl (va_pk sel W0 u) H1 ∧ va_D A (va_pk sel W0 u)) → va_S A s.heap H1 locs1 → W p l e R s m args below meth c H1 locs1 (cells + mc) (slots + ms) Q (F0 m (pc + 3) ls (.long r :: rest))) : W p l e R s m args below meth c H locs cells slots Q (F0 m pc ls st0) := by
  have hFc := va_free (wc := wc) hD hS hA isC hC
  refine va_calll hr hS (fun q _ h => hFc q h) hFc (fun r u t H1 locs1 ht hvm hw hB hz hk hS1 => ?_)
  obtain ⟨hP1, -, hD1⟩ := hB
  rw [ht] at hP1
  exact kk r u H1 locs1 hw (fun hu => va_joinS hP hD isC hC hck hk hP1 hu) hS1
theorem my_goVS {post : va_W → Prop} {a : Array Value} {mc ms : Nat} (hP : va_P D vwCl W0 H) (hD : va_D A W0) (hS : va_S A s.heap H locs) (hA : ∀ q : Nat, s.heap.size ≤ q → A q) (isC : List Nat) (hC : isC.map (fun i => W0[i]?) = wc.map some) (sel : List (Option Nat)) (hck : va_ck 0 sel isC = true)
    (hr : va_Run p l e R s m args below meth c H locs cells slots mc ms (F0 m pc ls st0) rest (va_Qv post (my_B D tys (va_A wc H.size)) (va_A wc H.size) a) (va_A wc H.size))
    (kk : ∀ (u : va_W) (H1 : Heap) (locs1 : List Loc), post u → (u.map Prod.fst = wc.map Prod.fst → va_P D vwCl (va_pk sel W0 u) H1 ∧ va_D A (va_pk sel W0 u)) → va_S A s.heap H1 locs1 → W p l e R s m args below meth c H1 locs1 (cells + mc) (slots + ms) Q (F0 m (pc + 3) ls rest)) : W p l e R s m args below meth c H locs cells slots Q (F0 m pc ls st0) := by
  have hFc := va_free (wc := wc) hD hS hA isC hC
  refine va_callv hr hS (fun q _ h => hFc q h) hFc (fun u t H1 locs1 ht hvm hw hB hz hk hS1 => ?_)
  obtain ⟨hP1, -, hD1⟩ := hB
  rw [ht] at hP1
  exact kk u H1 locs1 hw (fun hu => va_joinS hP hD isC hC hck hk hP1 hu) hS1
end GSS
