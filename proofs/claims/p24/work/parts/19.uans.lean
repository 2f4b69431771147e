section GFA
/-- the number that stands most often, the least of them -/
def mdP (c : Nat → Nat) (b n : Nat) : Prop := (∀ u, u < n → c u ≤ c b) ∧ ∀ u, u < b → c u < c b
theorem md_one {c : Nat → Nat} {n a b : Nat} (ha : a < n) (hb : b < n) (h : mdP c a n) (g : mdP c b n) : a = b := by
  rcases Nat.lt_trichotomy a b with q | q | q
  · have h1 := g.2 a q; have h2 := h.1 b hb; omega
  · exact q
  · have h1 := h.2 b q; have h2 := g.1 a ha; omega
theorem md_0 {c : Nat → Nat} : mdP c 0 1 := ⟨fun u h => by rw [show u = 0 by omega]; exact Nat.le_refl _, fun u h => absurd h (Nat.not_lt_zero u)⟩
theorem md_new {c : Nat → Nat} {b v : Nat} (h : mdP c b v) (hv : c b < c v) : mdP c v (v + 1) := by
  refine ⟨fun u hu => ?_, fun u hu => ?_⟩
  · by_cases e : u = v
    · rw [e]; exact Nat.le_refl _
    · have := h.1 u (by omega); omega
  · have := h.1 u hu; omega
theorem md_old {c : Nat → Nat} {b v : Nat} (h : mdP c b v) (hv : c v ≤ c b) : mdP c b (v + 1) := by
  refine ⟨fun u hu => ?_, h.2⟩
  by_cases e : u = v
  · rw [e]; exact hv
  · exact h.1 u (by omega)
end GFA
section GFA2
theorem cnF_64 {f : Nat → Int32} {a b v : Nat} (h : b ≤ 64) : cnF f a b v ≤ 64 := by
  have h1 := cn_le (f := f) (v := v) (a := a) b
  show cn f v a b ≤ 64
  omega
end GFA2
section GFA3
theorem md_mk {c : Nat → Nat} {b v : Nat} (h : mdP c b v) (e : v = 256) : mdP c b 256 := by rw [← e]; exact h
end GFA3
section GFA4
end GFA4
section GFA5
end GFA5
section GFA6
end GFA6
