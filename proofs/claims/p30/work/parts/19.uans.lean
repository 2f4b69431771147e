section GFA
/-- the next one below, above -/
def blP (c : Nat → Nat) (v : Int) (r : Int32) : Prop := 0 ≤ r.toInt ∧ r.toInt < v ∧ c r.toInt.toNat ≠ 0 ∧ ∀ u : Nat, r.toInt < (u : Int) → (u : Int) < v → c u = 0
def blN (c : Nat → Nat) (v : Int) : Prop := ∀ u : Nat, (u : Int) < v → c u = 0
theorem bl_one {c : Nat → Nat} {v : Int} {r s : Int32} (h : blP c v r) (g : blP c v s) : r = s := by
  obtain ⟨h1, h2, h3, h4⟩ := h
  obtain ⟨g1, g2, g3, g4⟩ := g
  refine Int32.toInt_inj.mp ?_
  rcases Int.lt_trichotomy r.toInt s.toInt with q | q | q
  · exact absurd (h4 s.toInt.toNat (by omega) (by omega)) g3
  · exact q
  · exact absurd (g4 r.toInt.toNat (by omega) (by omega)) h3
theorem bl_no {c : Nat → Nat} {v : Int} {r : Int32} (h : blP c v r) (g : blN c v) : False := h.2.2.1 (g _ (by have := h.1; have := h.2.1; omega))
/-- by exclusive or -/
def axF (c : Nat → Nat) (x : Nat) : Nat → Nat := fun u => c (u ^^^ x)
end GFA
section GFA2
theorem cnF_64 {f : Nat → Int32} {a b v : Nat} (h : b ≤ 64) : cnF f a b v ≤ 64 := by
  have h1 := cn_le (f := f) (v := v) (a := a) b
  show cn f v a b ≤ 64
  omega
theorem bl_mk {c : Nat → Nat} {v : Int} {r : Int32} (h1 : 0 ≤ r.toInt) (h2 : r.toInt < v) (h3 : c r.toInt.toNat ≠ 0) (h4 : ∀ u : Nat, r.toInt < (u : Int) → (u : Int) < v → c u = 0) : blP c v r := ⟨h1, h2, h3, h4⟩
theorem bl_nmk {c : Nat → Nat} {v : Int} {x : Int32} (h : x.toInt < 0) (h4 : ∀ u : Nat, x.toInt < (u : Int) → (u : Int) < v → c u = 0) : blN c v := fun u hu => h4 u (by omega) hu
theorem bl_ne {c : Nat → Nat} {x : Int} {w t : Nat} (ew : (w : Int) = x) (ht : t = c w) (h : 0 < t) : c x.toNat ≠ 0 := by
  rw [show x.toNat = w by omega, ← ht]; omega
theorem bl_back {c : Nat → Nat} {v x y : Int} {w t : Nat} (hb : ∀ u : Nat, x < (u : Int) → (u : Int) < v → c u = 0) (ew : (w : Int) = x) (ht : t = c w) (h : t = 0) (hy : y = x - 1) : ∀ u : Nat, y < (u : Int) → (u : Int) < v → c u = 0 := by
  intro u h1 h2
  by_cases e : x < (u : Int)
  · exact hb u e h2
  · rw [show u = w by omega, ← ht, h]
end GFA2
section GFA3
end GFA3
section GFA4
theorem far_none {f : Nat → Int32} {a x : Nat} {v : Int} {r : Int32} (h : blP (axF (cnF f a a) x) v r) : False := h.2.2.1 (cn_start (Nat.le_refl a))
end GFA4
section GFA5
end GFA5
section GFA6
end GFA6
