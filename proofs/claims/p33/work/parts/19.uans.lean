section GFA
theorem cn_mono {f : Nat → Int32} {v a : Nat} : ∀ {m n : Nat}, m ≤ n → cn f v a m ≤ cn f v a n
  | m, n, h => by
    induction n with
    | zero => rw [show m = 0 by omega]; exact Nat.le_refl _
    | succ n ih =>
      by_cases e : m = n + 1
      · rw [e]; exact Nat.le_refl _
      · have h1 := ih (by omega)
        have h2 : cn f v a (n + 1) = cn f v a n + (if a ≤ n ∧ f n = nI v then 1 else 0) := rfl
        omega
theorem cn_go1 {f : Nat → Int32} {v a k t : Nat} (h : t = cn f v a k) (hak : a ≤ k) (hv : v < 256) (d : (f k).toInt = ((v : Nat) : Int)) : t + 1 = cn f v a (k + 1) := by
  rw [cn_yes hak (my_eqI (a := (v : Int)) d (nI_toInt (by omega))), h]
theorem cn_go0 {f : Nat → Int32} {v a k t : Nat} (h : t = cn f v a k) (hv : v < 256) (d : (f k).toInt ≠ ((v : Nat) : Int)) : t = cn f v a (k + 1) := by
  rw [cn_no (fun e => d (by rw [e]; exact nI_toInt (by omega))), h]
end GFA
section GFA2
end GFA2
section GFA3
end GFA3
section GFA4
end GFA4
section GFA5
end GFA5
section GFA6
/-- narrow: the shortest span from l on with m of v, both ends v -/
def lnQ (f : Nat → Int32) (v m l z q : Nat) : Prop := f l = nI v ∧ 1 ≤ q ∧ l + q ≤ z ∧ cn f v l (l + q) = m ∧ f (l + q - 1) = nI v
theorem ln_mk {f : Nat → Int32} {v m l z k q : Nat} (h1 : f l = nI v) (hq : k + 1 = l + q) (hlk : l ≤ k) (hz : k < z) (hc : cn f v l (k + 1) = m) (hk : f k = nI v) : lnQ f v m l z q := by
  refine ⟨h1, by omega, by omega, by rw [← hq]; exact hc, ?_⟩
  rw [show l + q - 1 = k by omega]; exact hk
theorem ln_one {f : Nat → Int32} {v m l z q r : Nat} (h : lnQ f v m l z q) (g : lnQ f v m l z r) : q = r := by
  obtain ⟨h1, h2, h3, h4, h5⟩ := h
  obtain ⟨g1, g2, g3, g4, g5⟩ := g
  rcases Nat.lt_trichotomy q r with c | c | c
  · have e := cn_yes (f := f) (v := v) (a := l) (b := l + r - 1) (by omega) g5
    have m1 := cn_mono (f := f) (v := v) (a := l) (show l + q ≤ l + r - 1 by omega)
    rw [show l + r - 1 + 1 = l + r by omega] at e; omega
  · exact c
  · have e := cn_yes (f := f) (v := v) (a := l) (b := l + q - 1) (by omega) h5
    have m1 := cn_mono (f := f) (v := v) (a := l) (show l + r ≤ l + q - 1 by omega)
    rw [show l + q - 1 + 1 = l + q by omega] at e; omega
theorem ln_no0 {f : Nat → Int32} {v m l z : Nat} (h : f l ≠ nI v) : ∀ q, ¬ lnQ f v m l z q := fun q g => h g.1
theorem ln_no {f : Nat → Int32} {v m l z k : Nat} (hc : cn f v l k < m) (hk : z ≤ k) : ∀ q, ¬ lnQ f v m l z q := fun q g => by
  have m1 := cn_mono (f := f) (v := v) (a := l) (show l + q ≤ k by have := g.2.2.1; omega)
  have := g.2.2.2.1; omega
theorem ln_cong {f g : Nat → Int32} {v m l z q : Nat} (h : ∀ j, j < z → f j = g j) (hl : l < z) : lnQ f v m l z q → lnQ g v m l z q := fun p => by
  obtain ⟨h1, h2, h3, h4, h5⟩ := p
  exact ⟨by rw [← h l hl]; exact h1, h2, h3, by rw [← cn_cong (fun j hj => h j (by omega))]; exact h4, by rw [← h _ (by omega)]; exact h5⟩
/-- as far as l: none yet (x below 0), or x the shortest -/
def nrP (f : Nat → Int32) (v m z : Nat) (x : Int) (k : Nat) : Prop := (x < 0 ∧ ∀ l, l < k → ∀ q, ¬ lnQ f v m l z q) ∨ (0 ≤ x ∧ (∃ l, l < k ∧ lnQ f v m l z x.toNat) ∧ ∀ l, l < k → ∀ q : Nat, lnQ f v m l z q → x ≤ (q : Int))
theorem nr_0 {f : Nat → Int32} {v m z : Nat} {x : Int} (h : x < 0) : nrP f v m z x 0 := Or.inl ⟨h, fun l hl => absurd hl (Nat.not_lt_zero l)⟩
theorem nr_skip {f : Nat → Int32} {v m z k : Nat} {x : Int} (h : nrP f v m z x k) (g : ∀ q, ¬ lnQ f v m k z q) : nrP f v m z x (k + 1) := by
  rcases h with h | h
  · exact Or.inl ⟨h.1, fun l hl => by
      by_cases e : l = k
      · rw [e]; exact g
      · exact h.2 l (by omega)⟩
  · obtain ⟨h1, ⟨l, h2, h3⟩, h4⟩ := h
    exact Or.inr ⟨h1, ⟨l, by omega, h3⟩, fun l hl q hq => by
      by_cases e : l = k
      · rw [e] at hq; exact absurd hq (g q)
      · exact h4 l (by omega) q hq⟩
theorem nr_less {f : Nat → Int32} {v m z k q : Nat} {x y : Int} (h : nrP f v m z x k) (g : lnQ f v m k z q) (hy : y = (q : Int)) (hl : x < 0 ∨ (q : Int) < x) : nrP f v m z y (k + 1) := by
  subst hy
  refine Or.inr ⟨by omega, ⟨k, by omega, by rw [Int.toNat_natCast]; exact g⟩, fun l hl2 r hr => ?_⟩
  by_cases e : l = k
  · rw [e] at hr; rw [ln_one g hr]; exact Int.le_refl _
  · rcases h with h | h
    · exact absurd hr (h.2 l (by omega) r)
    · have := h.2.2 l (by omega) r hr; omega
theorem nr_more {f : Nat → Int32} {v m z k q : Nat} {x : Int} (h : nrP f v m z x k) (g : lnQ f v m k z q) (hx : 0 ≤ x) (hl : x ≤ (q : Int)) : nrP f v m z x (k + 1) := by
  rcases h with h | h
  · have := h.1; omega
  · obtain ⟨h1, ⟨l, h2, h3⟩, h4⟩ := h
    exact Or.inr ⟨h1, ⟨l, by omega, h3⟩, fun l hl2 r hr => by
      by_cases e : l = k
      · rw [e] at hr; rw [← ln_one g hr]; exact hl
      · exact h4 l (by omega) r hr⟩
def nrA (f : Nat → Int32) (v m z : Nat) (r : Int32) : Prop := (∃ l, l < z ∧ lnQ f v m l z r.toInt.toNat) ∧ ∀ l, l < z → ∀ q : Nat, lnQ f v m l z q → r.toInt ≤ (q : Int)
def nrN (f : Nat → Int32) (v m z : Nat) : Prop := ∀ l, l < z → ∀ q, ¬ lnQ f v m l z q
theorem nr_yes {f : Nat → Int32} {v m z k : Nat} {x : Int} {r : Int32} (h : nrP f v m z x k) (hk : z = k) (hx : 0 ≤ x) (hr : r.toInt = x) : nrA f v m z r := by
  subst hk
  rcases h with h | h
  · have := h.1; omega
  · rw [← hr] at h; exact h.2
theorem nr_no {f : Nat → Int32} {v m z k : Nat} {x : Int} (h : nrP f v m z x k) (hk : z = k) (hx : x < 0) : nrN f v m z := by
  subst hk
  rcases h with h | h
  · exact h.2
  · have := h.1; omega
theorem nr_one {f g : Nat → Int32} {v m z : Nat} {r s : Int32} (e : ∀ j, j < z → f j = g j) (h : nrA f v m z r) (p : nrA g v m z s) (hr : 0 ≤ r.toInt) (hs : 0 ≤ s.toInt) : r = s := by
  obtain ⟨⟨l, h1, h2⟩, h3⟩ := h
  obtain ⟨⟨k, p1, p2⟩, p3⟩ := p
  have q1 := h3 k p1 _ (ln_cong (fun j hj => (e j hj).symm) p1 p2)
  have q2 := p3 l h1 _ (ln_cong e h1 h2)
  exact my_eqI (a := s.toInt) (by omega) rfl
theorem nr_cl {f g : Nat → Int32} {v m z : Nat} {r : Int32} (e : ∀ j, j < z → f j = g j) (h : nrA f v m z r) (p : nrN g v m z) : False := by
  obtain ⟨⟨l, h1, h2⟩, _⟩ := h
  exact p l h1 _ (ln_cong e h1 h2)
end GFA6
