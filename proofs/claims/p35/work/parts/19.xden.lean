section GFX
/-- rising choices: how long one that ends at p is, as far as q has been asked -/
def rf (L : Nat → Nat) (f : Nat → Int32) (a p : Nat) : Nat → Nat
  | 0 => 1
  | q + 1 => if a ≤ q ∧ (f q).toInt < (f p).toInt ∧ rf L f a p q < L q + 1 then L q + 1 else rf L f a p q
theorem rf_0 {L : Nat → Nat} {f : Nat → Int32} {a p : Nat} : ∀ {q : Nat}, q ≤ a → rf L f a p q = 1
  | 0, _ => rfl
  | q + 1, h => by
    show (if a ≤ q ∧ (f q).toInt < (f p).toInt ∧ rf L f a p q < L q + 1 then L q + 1 else rf L f a p q) = 1
    rw [if_neg (by omega)]; exact rf_0 (by omega)
theorem rf_y {L : Nat → Nat} {f : Nat → Int32} {a p q t : Nat} (h : t = rf L f a p q) (ha : a ≤ q) (d : (f q).toInt < (f p).toInt) (hl : t < L q + 1) : L q + 1 = rf L f a p (q + 1) := by
  show _ = (if a ≤ q ∧ (f q).toInt < (f p).toInt ∧ rf L f a p q < L q + 1 then L q + 1 else rf L f a p q)
  rw [if_pos ⟨ha, d, by omega⟩]
theorem rf_n {L : Nat → Nat} {f : Nat → Int32} {a p q t : Nat} (h : t = rf L f a p q) (d : ¬ (f q).toInt < (f p).toInt ∨ L q + 1 ≤ t) : t = rf L f a p (q + 1) := by
  show _ = (if a ≤ q ∧ (f q).toInt < (f p).toInt ∧ rf L f a p q < L q + 1 then L q + 1 else rf L f a p q)
  rw [if_neg (by omega), h]
theorem rf_cong {L K : Nat → Nat} {f g : Nat → Int32} {a p : Nat} (hp : f p = g p) : ∀ {q : Nat}, (∀ i, i < q → L i = K i ∧ f i = g i) → rf L f a p q = rf K g a p q
  | 0, _ => rfl
  | q + 1, h => by
    show (if a ≤ q ∧ (f q).toInt < (f p).toInt ∧ rf L f a p q < L q + 1 then L q + 1 else rf L f a p q) = (if a ≤ q ∧ (g q).toInt < (g p).toInt ∧ rf K g a p q < K q + 1 then K q + 1 else rf K g a p q)
    rw [rf_cong hp (fun i hi => h i (by omega)), (h q (by omega)).1, (h q (by omega)).2, hp]
theorem rf_le {L : Nat → Nat} {f : Nat → Int32} {a p : Nat} (hL : ∀ i, L i ≤ i + 1) : ∀ q, rf L f a p q ≤ q + 1
  | 0 => Nat.le_refl 1
  | q + 1 => by
    show (if a ≤ q ∧ (f q).toInt < (f p).toInt ∧ rf L f a p q < L q + 1 then L q + 1 else rf L f a p q) ≤ q + 1 + 1
    have h1 := rf_le (f := f) (a := a) (p := p) hL q
    have h2 := hL q
    split <;> omega
def RT (f : Nat → Int32) (a : Nat) : Nat → Nat → Nat
  | 0, _ => 0
  | p + 1, q => if q = p then rf (RT f a p) f a p p else RT f a p q
def LSq (f : Nat → Int32) (a p : Nat) : Nat := RT f a (p + 1) p
theorem RT_LS {f : Nat → Int32} {a q : Nat} : ∀ {p : Nat}, q < p → RT f a p q = LSq f a q
  | 0, h => absurd h (Nat.not_lt_zero q)
  | p + 1, h => by
    by_cases e : q = p
    · rw [e]; rfl
    · show (if q = p then rf (RT f a p) f a p p else RT f a p q) = _
      rw [if_neg e]; exact RT_LS (by omega)
theorem LS_eq {f : Nat → Int32} {a p : Nat} : LSq f a p = rf (LSq f a) f a p p := by
  show (if p = p then rf (RT f a p) f a p p else RT f a p p) = _
  rw [if_pos rfl]
  exact rf_cong rfl (fun i hi => ⟨RT_LS hi, rfl⟩)
theorem LS_cong {f g : Nat → Int32} {a n : Nat} (h : ∀ i, i < n → f i = g i) : ∀ {p : Nat}, p < n → LSq f a p = LSq g a p := by
  intro p
  induction p using Nat.strongRecOn with
  | _ p ih =>
    intro hp
    rw [LS_eq, LS_eq]
    exact rf_cong (h p hp) (fun i hi => ⟨ih i hi (by omega), h i (by omega)⟩)
theorem LS_le {f : Nat → Int32} {a : Nat} : ∀ p, LSq f a p ≤ p + 1 := by
  intro p
  induction p using Nat.strongRecOn with
  | _ p ih =>
    rw [LS_eq, rf_cong (K := fun i => if i < p then LSq f a i else 0) (g := f) rfl (fun i hi => ⟨by show _ = if i < p then _ else _; rw [if_pos hi], rfl⟩)]
    exact rf_le (fun i => by
      show (if i < p then LSq f a i else 0) ≤ i + 1
      by_cases c : i < p
      · rw [if_pos c]; exact ih i c
      · rw [if_neg c]; omega) p
theorem rf_LSle {f : Nat → Int32} {a p : Nat} : ∀ q, rf (LSq f a) f a p q ≤ q + 1 := rf_le (fun i => LS_le i)
def lmF (f : Nat → Int32) (a : Nat) : Nat → Nat
  | 0 => 0
  | k + 1 => if a ≤ k then max (lmF f a k) (LSq f a k) else lmF f a k
theorem lm_0 {f : Nat → Int32} {a : Nat} : ∀ {k : Nat}, k ≤ a → lmF f a k = 0
  | 0, _ => rfl
  | k + 1, h => by
    show (if a ≤ k then max (lmF f a k) (LSq f a k) else lmF f a k) = 0
    rw [if_neg (by omega)]; exact lm_0 (by omega)
theorem lm_s {f : Nat → Int32} {a k : Nat} {x y : Int} {t : Nat} (h : x = ((lmF f a k : Nat) : Int)) (ha : a ≤ k) (ht : t = LSq f a k) (hy : (y = x ∧ (t : Int) ≤ x) ∨ (y = (t : Int) ∧ x ≤ (t : Int))) : y = ((lmF f a (k + 1) : Nat) : Int) := by
  show y = (((if a ≤ k then max (lmF f a k) (LSq f a k) else lmF f a k) : Nat) : Int)
  rw [if_pos ha, ← ht]; omega
theorem lm_cong {f g : Nat → Int32} {a n : Nat} (h : ∀ i, i < n → f i = g i) : ∀ {k : Nat}, k ≤ n → lmF f a k = lmF g a k
  | 0, _ => rfl
  | k + 1, hk => by
    show (if a ≤ k then max (lmF f a k) (LSq f a k) else lmF f a k) = (if a ≤ k then max (lmF g a k) (LSq g a k) else lmF g a k)
    rw [lm_cong h (by omega), LS_cong h (by omega)]
theorem ri_1 {g g' : Nat → Int32} {k : Nat} (e : g' = upd g k 1) : g' k = nI 1 := by rw [e, pk_us]; rfl
theorem ri_o {g g' : Nat → Int32} {k q : Nat} {x y : Int32} (e : g' = upd g k x) (h : q ≠ k) (hq : g q = y) : g' q = y := by rw [e, pk_un h]; exact hq
theorem ri_y {g g' : Nat → Int32} {k t u : Nat} {x : Int32} (e : g' = upd g k x) (hx : x = nI t) (h : t = u) : g' k = nI u := by rw [e, pk_us, hx, h]
end GFX
