section GFA
/-- by exclusive or -/
def axF (c : Nat → Nat) (x : Nat) : Nat → Nat := fun u => c (u ^^^ x)
theorem axF_sum {f : Nat → Int32} (hf : RB 0 255 f) {x a b : Nat} (hx : x < 256) (h : a ≤ b) : fb_sm (axF (cnF f a b) x) 256 = b - a := cn_sum hf hx h
end GFA
section GFA2
theorem cnF_64 {f : Nat → Int32} {a b v : Nat} (h : b ≤ 64) : cnF f a b v ≤ 64 := by
  have h1 := cn_le (f := f) (v := v) (a := a) b
  show cn f v a b ≤ 64
  omega
end GFA2
section GFA3
end GFA3
section GFA4
def axP (c : Nat → Nat) (x k p : Nat) : Prop := fb_sm (axF c x) p ≤ k ∧ k < fb_sm (axF c x) (p + 1)
theorem ax_mk {c : Nat → Nat} {x k p : Nat} (h1 : fb_sm (axF c x) p ≤ k) (h2 : k < fb_sm (axF c x) (p + 1)) : axP c x k p := ⟨h1, h2⟩
theorem ax_one {c : Nat → Nat} {x k p q : Nat} (h : axP c x k p) (g : axP c x k q) : p = q := slot_one h.1 h.2 g.1 g.2
end GFA4
section GFA5
end GFA5
section GFA6
end GFA6
