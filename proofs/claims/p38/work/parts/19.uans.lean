section GFA
end GFA
section GFA2
theorem cnF_64 {f : Nat → Int32} {a b v : Nat} (h : b ≤ 64) : cnF f a b v ≤ 64 := by
  have h1 := cn_le (f := f) (v := v) (a := a) b
  show cn f v a b ≤ 64
  omega
end GFA2
section GFA3
end GFA3
section GFA4
end GFA4
section GFA5
def lkP (c e : Nat → Nat) : Nat → Bool := fun u => decide (0 < c u ∧ e u = 0)
end GFA5
section GFA6
end GFA6
