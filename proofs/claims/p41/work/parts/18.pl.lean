section GFPL
def bitS (f : Nat → Int32) (n k : Nat) : Bool := decide (k < n) && (decide (48 ≤ (f k).toInt) && decide ((f k).toInt ≤ 49))
theorem bitS_iff {f : Nat → Int32} {n k : Nat} : bitS f n k = true ↔ k < n ∧ 48 ≤ (f k).toInt ∧ (f k).toInt ≤ 49 := by
  unfold bitS; simp [Bool.and_eq_true]
theorem bitS_no {f : Nat → Int32} {n k : Nat} (h : n ≤ k ∨ (f k).toInt < 48 ∨ 49 < (f k).toInt) : bitS f n k = false := by
  cases e : bitS f n k with
  | false => rfl
  | true => have := bitS_iff.mp e; omega
theorem bitS_eq {f g : Nat → Int32} {n : Nat} (h : txEq n f g) (k : Nat) : bitS f n k = bitS g n k := by
  unfold bitS
  by_cases hk : k < n
  · rw [h k hk]
  · rw [decide_eq_false hk, Bool.false_and, Bool.false_and]
/-- how many signs 0 and 1 stand from a on, m at most -/
def blen (f : Nat → Int32) (n : Nat) : Nat → Nat → Nat
  | 0, _ => 0
  | m + 1, a => if bitS f n a then blen f n m (a + 1) + 1 else 0
theorem bl_yes {f : Nat → Int32} {n m k a : Nat} (hk : k < m) (h : bitS f n a = true) : blen f n (m - k) a = blen f n (m - (k + 1)) (a + 1) + 1 := by
  obtain ⟨j, e⟩ : ∃ j, m - k = j + 1 := ⟨m - k - 1, by omega⟩
  rw [e, show m - (k + 1) = j by omega]
  show (if bitS f n a then blen f n j (a + 1) + 1 else 0) = _; rw [if_pos h]
theorem bl_exit {f : Nat → Int32} {n m k a : Nat} (h : m ≤ k ∨ bitS f n a = false) : blen f n (m - k) a = 0 := by
  cases e : m - k with
  | zero => rfl
  | succ j =>
    have h2 : bitS f n a = false := by rcases h with h | h; · omega
                                       · exact h
    show (if bitS f n a then blen f n j (a + 1) + 1 else 0) = _; rw [h2]; rfl
theorem bl_le {f : Nat → Int32} {n : Nat} : ∀ (m a : Nat), blen f n m a ≤ m
  | 0, _ => Nat.le_refl 0
  | m + 1, a => by
    show (if bitS f n a then blen f n m (a + 1) + 1 else 0) ≤ _
    have := bl_le (f := f) (n := n) m (a + 1)
    split <;> omega
theorem bl_self {f : Nat → Int32} {n : Nat} : ∀ (m a : Nat), blen f n (blen f n m a) a = blen f n m a
  | 0, _ => rfl
  | m + 1, a => by
    show blen f n (if bitS f n a then blen f n m (a + 1) + 1 else 0) a = (if bitS f n a then blen f n m (a + 1) + 1 else 0)
    by_cases h : bitS f n a = true
    · rw [if_pos h]
      show (if bitS f n a then blen f n (blen f n m (a + 1)) (a + 1) + 1 else 0) = _
      rw [if_pos h, bl_self m (a + 1)]
    · rw [if_neg h]; rfl
theorem bl_eq {f g : Nat → Int32} {n : Nat} (h : txEq n f g) : ∀ (m a : Nat), blen f n m a = blen g n m a
  | 0, _ => rfl
  | m + 1, a => by
    show (if bitS f n a then blen f n m (a + 1) + 1 else 0) = (if bitS g n a then blen g n m (a + 1) + 1 else 0)
    rw [bitS_eq h, bl_eq h m (a + 1)]
/-- where row k of planes w wide begins -/
def plA (w k : Nat) : Nat := k * (w + 1)
theorem plA_0 (w : Nat) : plA w 0 = 0 := Nat.zero_mul _
theorem plA_s (w k : Nat) : plA w (k + 1) = plA w k + w + 1 := by unfold plA; rw [Nat.succ_mul]; omega
def rowOk (f : Nat → Int32) (n w k : Nat) : Prop := blen f n w (plA w k) = w ∧ (k < 7 → isS f n (plA w k + w) 47 = true) ∧ (k = 7 → n ≤ plA w k + w)
theorem row_mk {f : Nat → Int32} {n w k a kk : Nat} (hA : a = plA w k) (hrow : kk = blen f n w (plA w k)) (hw : kk = w) (h1 : k < 7 → a + kk < n ∧ (f (a + kk)).toInt = 47) (h2 : k = 7 → n ≤ a + kk) : rowOk f n w k := by
  refine ⟨hrow.symm.trans hw, fun h => ?_, fun h => ?_⟩
  · have q := h1 h
    rw [hA, hw] at q
    exact isS_iff.mpr q
  · have q := h2 h
    rw [hA, hw] at q
    exact q
theorem row_no {f : Nat → Int32} {n w k a kk : Nat} (hA : a = plA w k) (hrow : kk = blen f n w (plA w k)) (h : rowOk f n w k) : kk = w ∧ (k < 7 → a + kk < n ∧ (f (a + kk)).toInt = 47) ∧ (k = 7 → n ≤ a + kk) := by
  have hw : kk = w := hrow.trans h.1
  refine ⟨hw, fun q => ?_, fun q => ?_⟩
  · rw [hA, hw]; exact isS_iff.mp (h.2.1 q)
  · rw [hA, hw]; exact h.2.2 q
theorem row_eq {f g : Nat → Int32} {n : Nat} (h : txEq n f g) (w k : Nat) : rowOk f n w k ↔ rowOk g n w k := by
  unfold rowOk; rw [bl_eq h, isS_eq h]
/-- THE TEXT as planes: their width, whether it is right, where the first sign is that can't stand there -/
def plW (f : Nat → Int32) (n : Nat) : Nat := blen f n 11 0
theorem plW_le (f : Nat → Int32) (n : Nat) : plW f n ≤ 11 := bl_le 11 0
theorem plW_0 (f : Nat → Int32) (n : Nat) : blen f n (plW f n) (plA (plW f n) 0) = plW f n := by rw [plA_0]; exact bl_self 11 0
def plOk (f : Nat → Int32) (n : Nat) : Prop := ∀ k, k < 8 → rowOk f n (plW f n) k
def plErr (f : Nat → Int32) (n e : Nat) : Prop := ∃ k, k < 8 ∧ (∀ q, q < k → rowOk f n (plW f n) q) ∧ ¬ rowOk f n (plW f n) k ∧ e = plA (plW f n) k + blen f n (plW f n) (plA (plW f n) k)
theorem plErr_no {f : Nat → Int32} {n e : Nat} (h : plErr f n e) : ¬ plOk f n := fun q => by
  obtain ⟨k, h1, _, h3, _⟩ := h
  exact h3 (q k h1)
theorem pl_tie {f g : Nat → Int32} {n : Nat} (h : txEq n f g) : plW f n = plW g n ∧ (plOk f n ↔ plOk g n) ∧ ∀ e, plErr f n e ↔ plErr g n e := by
  have hw : plW f n = plW g n := bl_eq h 11 0
  refine ⟨hw, ?_, fun e => ?_⟩
  · unfold plOk; rw [hw]
    exact ⟨fun q k hk => (row_eq h _ k).mp (q k hk), fun q k hk => (row_eq h _ k).mpr (q k hk)⟩
  · unfold plErr; rw [hw]
    constructor
    · rintro ⟨k, h1, h2, h3, h4⟩
      exact ⟨k, h1, fun q hq => (row_eq h _ q).mp (h2 q hq), fun q => h3 ((row_eq h _ k).mpr q), by rw [h4, bl_eq h]⟩
    · rintro ⟨k, h1, h2, h3, h4⟩
      exact ⟨k, h1, fun q hq => (row_eq h _ q).mpr (h2 q hq), fun q => h3 ((row_eq h _ k).mp q), by rw [h4, bl_eq h]⟩
def rmo (j m : Nat) : Nat := if j = 0 then 11 else m
theorem rmo_or (j m : Nat) : (j = 0 ∧ rmo j m = 11) ∨ (j ≠ 0 ∧ rmo j m = m) := by
  by_cases h : j = 0
  · exact Or.inl ⟨h, if_pos h⟩
  · exact Or.inr ⟨h, if_neg h⟩
/-- numbers: one comes behind, goes, changes -/
theorem nm_add {f g f' g' : Nat → Int32} {n m n' : Nat} {v : Int32} (h : ∀ j, j < n → f j = g j) (hm : n = m) (ef : f' = upd f n v) (eg : g' = upd g m v) (hn : n' = n + 1) : ∀ j, j < n' → f' j = g' j := by
  subst hm ef eg hn
  intro j hj
  by_cases e : j = n
  · subst e; rw [pk_us, pk_us]
  · rw [pk_un e, pk_un e]; exact h j (by omega)
theorem nm_cut {f g f' g' : Nat → Int32} {n m n' m' : Nat} {p : Int} (h : ∀ j, j < n → f j = g j) (hm : n = m) (hn : n' + 1 = n) (hm' : m' + 1 = m) (ef : ∀ j : Nat, j < n' → f' j = if p ≤ (j : Int) then f (j + 1) else f j) (eg : ∀ j : Nat, j < m' → g' j = if p ≤ (j : Int) then g (j + 1) else g j) : ∀ j, j < n' → f' j = g' j := by
  intro j hj
  rw [ef j hj, eg j (by omega), h (j + 1) (by omega), h j (by omega)]
theorem nm_put {f g f' g' : Nat → Int32} {n : Nat} {a : Nat} {v : Int32} (h : ∀ j, j < n → f j = g j) (ef : f' = upd f a v) (eg : g' = upd g a v) : ∀ j, j < n → f' j = g' j := by
  subst ef eg
  intro j hj
  by_cases e : j = a
  · subst e; rw [pk_us, pk_us]
  · rw [pk_un e, pk_un e]; exact h j hj
theorem nm_swap {f g f' g' : Nat → Int32} {n a b : Nat} (h : ∀ j, j < n → f j = g j) (ha : a < n) (hb : b < n) (ef : f' = upd (upd f a (f b)) b (f a)) (eg : g' = upd (upd g a (g b)) b (g a)) : ∀ j, j < n → f' j = g' j :=
  nm_put (nm_put h rfl (by rw [h b hb])) ef (by rw [eg, h a ha])
/-- the other way round, as far as it has come: the places a .. k less 1 and those above x -/
def rvs (f : Nat → Int32) (a b k : Nat) : Nat → Int32 := fun j => if (a ≤ j ∧ j < k) ∨ (a + b ≤ j + k ∧ j < b) then f (a + b - 1 - j) else f j
theorem rvs_0 (f : Nat → Int32) (a b : Nat) : rvs f a b a = f := by
  funext j; unfold rvs; rw [if_neg (by omega)]
theorem rvs_step {f g h : Nat → Int32} {a b k x : Nat} (hg : g = rvs f a b k) (ha : a ≤ k) (hx : x + k + 1 = a + b) (hk : k < x) (eh : h = upd (upd g k (g x)) x (g k)) : h = rvs f a b (k + 1) := by
  have e1 : g x = f x := by rw [hg]; unfold rvs; rw [if_neg (by omega)]
  have e2 : g k = f k := by rw [hg]; unfold rvs; rw [if_neg (by omega)]
  rw [eh, e1, e2]
  funext j
  by_cases hj : j = x
  · subst hj; rw [pk_us]; unfold rvs; rw [if_pos (by omega), show a + b - 1 - j = k by omega]
  · rw [pk_un hj]
    by_cases hj2 : j = k
    · subst hj2; rw [pk_us]; unfold rvs; rw [if_pos (by omega), show a + b - 1 - j = x by omega]
    · rw [pk_un hj2, hg]
      unfold rvs
      by_cases c : (a ≤ j ∧ j < k) ∨ (a + b ≤ j + k ∧ j < b)
      · rw [if_pos c, if_pos (by omega)]
      · rw [if_neg c, if_neg (by omega)]
theorem rvs_end {f g : Nat → Int32} {a b k n : Nat} (h : g = rvs f a b k) (ha : a ≤ k) (hb : a + b ≤ 2 * k + 1) (hk : 2 * k ≤ a + b) (_ : b ≤ n) : ∀ j, j < n → g j = if a ≤ j ∧ j < b then f (a + b - 1 - j) else f j := by
  intro j _
  rw [h]; unfold rvs
  by_cases c : a ≤ j ∧ j < b
  · rw [if_pos c]
    by_cases c2 : (a ≤ j ∧ j < k) ∨ (a + b ≤ j + k ∧ j < b)
    · rw [if_pos c2]
    · rw [if_neg c2, show a + b - 1 - j = j by omega]
  · rw [if_neg c, if_neg (by omega)]
theorem nm_rev {f g f' g' : Nat → Int32} {n m a b : Nat} (h : ∀ j, j < n → f j = g j) (hm : n = m) (hb : b ≤ n) (ef : ∀ j, j < n → f' j = if a ≤ j ∧ j < b then f (a + b - 1 - j) else f j) (eg : ∀ j, j < m → g' j = if a ≤ j ∧ j < b then g (a + b - 1 - j) else g j) : ∀ j, j < n → f' j = g' j := by
  intro j hj
  rw [ef j hj, eg j (by omega), h j hj]
  by_cases c : a ≤ j ∧ j < b
  · rw [if_pos c, if_pos c]; exact h _ (by omega)
  · rw [if_neg c, if_neg c]
theorem ix_nat {x : Int32} {a : Int} (e : x.toInt = a) (h : 0 ≤ a) : x.toNatClampNeg = a.toNat := by
  rw [my_clamp (by omega), e]
theorem nIt {k : Nat} (h : k < 2 ^ 31) : (nI k).toInt.toNat = k := by rw [nI_toInt h]; rfl
theorem cpy00 {α : Type} {f g : Nat → α} {n j : Nat} (h : j < n) : va_cpy f g 0 0 n j = f j := by
  unfold va_cpy; rw [if_pos (by omega), show 0 + (j - 0) = j by omega]
theorem cpy_e {f g h : Nat → Int32} {n j : Nat} (e : h = va_cpy f g 0 0 n) (hj : j < n) : h j = f j := by rw [e]; exact cpy00 hj
theorem cut_0 {f : Nat → Int32} {p : Nat} : ∀ j, f j = if p ≤ j ∧ j + 1 < p + 1 then f (j + 1) else f j := fun j => by rw [if_neg (by omega)]
theorem cut_s {f g h : Nat → Int32} {p k q : Nat} (hc : ∀ j, g j = if p ≤ j ∧ j + 1 < k then f (j + 1) else f j) (eh : h = upd g q (g k)) (hq : q + 1 = k ∧ p ≤ q) : ∀ j, h j = if p ≤ j ∧ j + 1 < k + 1 then f (j + 1) else f j := by
  intro j
  have ek : g k = f k := by rw [hc k, if_neg (by omega)]
  rw [eh, ek]
  by_cases e : j = q
  · subst e; rw [pk_us, if_pos (by omega), hq.1]
  · rw [pk_un e, hc j]
    by_cases c : p ≤ j ∧ j + 1 < k
    · rw [if_pos c, if_pos (by omega)]
    · rw [if_neg c, if_neg (by omega)]
theorem cut_e {f : Nat → Int32} {p k j : Nat} (h : j + 1 < k) : (if p ≤ j ∧ j + 1 < k then f (j + 1) else f j) = if (p : Int) ≤ (j : Int) then f (j + 1) else f j := by
  by_cases c : p ≤ j
  · rw [if_pos ⟨c, h⟩, if_pos (by omega)]
  · rw [if_neg (fun q => c q.1), if_neg (by omega)]
theorem cut_r0 {f : Nat → Int32} {p : Nat} : ∀ j, f j = if p ≤ j ∧ j < p then f (j + 1) else f j := fun j => by rw [if_neg (by omega)]
theorem cut_rs {f g h : Nat → Int32} {p k : Nat} (hc : ∀ j, g j = if p ≤ j ∧ j < k then f (j + 1) else f j) (eh : h = upd g k (g (k + 1))) (hq : p ≤ k) : ∀ j, h j = if p ≤ j ∧ j < k + 1 then f (j + 1) else f j := by
  intro j
  have ek : g (k + 1) = f (k + 1) := by rw [hc (k + 1), if_neg (by omega)]
  rw [eh, ek]
  by_cases e : j = k
  · subst e; rw [pk_us, if_pos (by omega)]
  · rw [pk_un e, hc j]
    by_cases c : p ≤ j ∧ j < k
    · rw [if_pos c, if_pos (by omega)]
    · rw [if_neg c, if_neg (by omega)]
theorem cut_re {f : Nat → Int32} {p k j : Nat} (h : j < k) : (if p ≤ j ∧ j < k then f (j + 1) else f j) = if (p : Int) ≤ (j : Int) then f (j + 1) else f j := by
  by_cases c : p ≤ j
  · rw [if_pos ⟨c, h⟩, if_pos (by omega)]
  · rw [if_neg (fun q => c q.1), if_neg (by omega)]
end GFPL
