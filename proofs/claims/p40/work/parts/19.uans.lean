section GFA
end GFA
section GFA2
theorem cnF_64 {f : Nat → Int32} {a b v : Nat} (h : b ≤ 64) : cnF f a b v ≤ 64 := by
  have h1 := cn_le (f := f) (v := v) (a := a) b
  show cn f v a b ≤ 64
  omega
end GFA2
section GFA3
end GFA3
section GFA4
end GFA4
section GFA5
/-- alike so far, or not -/
def saP (c e : Nat → Nat) (x : Int) (v : Nat) : Prop := (x = -1 ∧ ∀ u, u < v → c u = e u) ∨ (0 ≤ x ∧ ∃ u, u < 256 ∧ c u ≠ e u)
theorem sa_0 {c e : Nat → Nat} {x : Int} (h : x = -1) : saP c e x 0 := Or.inl ⟨h, fun u hu => absurd hu (Nat.not_lt_zero u)⟩
theorem sa_eq {c e : Nat → Nat} {x : Int} {v : Nat} (h : saP c e x v) (q : c v = e v) : saP c e x (v + 1) := by
  rcases h with h | h
  · exact Or.inl ⟨h.1, fun u hu => by
      by_cases c : u = v
      · rw [c]; exact q
      · exact h.2 u (by omega)⟩
  · exact Or.inr h
theorem sa_old {c e : Nat → Nat} {x : Int} {v : Nat} (h : saP c e x v) (q : x ≠ -1) : saP c e x (v + 1) := h.elim (fun h => absurd h.1 q) Or.inr
theorem sa_new {c e : Nat → Nat} {x : Int} {v : Nat} (hv : v < 256) (q : c v ≠ e v) (hx : 0 ≤ x) : saP c e x (v + 1) := Or.inr ⟨hx, v, hv, q⟩
theorem sa_all {c e : Nat → Nat} {x : Int} {v : Nat} (h : saP c e x v) (hv : v = 256) (q : x = -1) : ∀ u, u < 256 → c u = e u := by
  rcases h with h | h
  · rw [← hv]; exact h.2
  · have := h.1; omega
theorem sa_some {c e : Nat → Nat} {x : Int} {v : Nat} (h : saP c e x v) (q : x ≠ -1) : ∃ u, u < 256 ∧ c u ≠ e u := h.elim (fun h => absurd h.1 q) (fun h => h.2)
def saD (c e : Nat → Nat) (y x : Int) : Prop := (y = -1 ∧ ∀ u : Nat, x < (u : Int) → u < 256 → c u = e u) ∨ (0 ≤ y ∧ ∃ u, u < 256 ∧ c u ≠ e u)
theorem sd_0 {c e : Nat → Nat} {x y : Int} (h : y = -1) (hx : x = 255) : saD c e y x := Or.inl ⟨h, fun u h1 h2 => by omega⟩
theorem sd_eq {c e : Nat → Nat} {x y z : Int} {w : Nat} (h : saD c e y x) (ew : (w : Int) = x) (q : c w = e w) (hz : z = x - 1) : saD c e y z := by
  rcases h with h | h
  · exact Or.inl ⟨h.1, fun u h1 h2 => by
      by_cases c : x < (u : Int)
      · exact h.2 u c h2
      · rw [show u = w by omega]; exact q⟩
  · exact Or.inr h
theorem sd_new {c e : Nat → Nat} {x y z : Int} {w : Nat} (ew : (w : Int) = x) (hw : w < 256) (q : c w ≠ e w) (hy : 0 ≤ y) : saD c e y z := Or.inr ⟨hy, w, hw, q⟩
theorem sd_all {c e : Nat → Nat} {x y : Int} (h : saD c e y x) (hx : x < 0) (q : y < 0) : ∀ u, u < 256 → c u = e u := by
  rcases h with h | h
  · exact fun u hu => h.2 u (by omega) hu
  · have := h.1; omega
theorem sd_some {c e : Nat → Nat} {x y : Int} (h : saD c e y x) (q : 0 ≤ y) : ∃ u, u < 256 ∧ c u ≠ e u := h.elim (fun h => absurd q (by have := h.1; omega)) (fun h => h.2)
end GFA5
section GFA6
end GFA6
