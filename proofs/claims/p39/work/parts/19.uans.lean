section GFA
end GFA
section GFA2
theorem cnF_64 {f : Nat → Int32} {a b v : Nat} (h : b ≤ 64) : cnF f a b v ≤ 64 := by
  have h1 := cn_le (f := f) (v := v) (a := a) b
  show cn f v a b ≤ 64
  omega
end GFA2
section GFA3
end GFA3
section GFA4
end GFA4
section GFA5
def bsF (c e : Nat → Nat) : Nat → Nat := fun u => c u + e u
theorem bs_sum {f : Nat → Int32} (hf : RB 0 255 f) {a b e d : Nat} (h : a ≤ b) (h2 : e ≤ d) : fb_sm (bsF (cnF f a b) (cnF f e d)) 256 = (b - a) + (d - e) := by
  have h1 := fb_sm_add (cnF f a b) (cnF f e d) 256
  rw [cnF_sum hf h, cnF_sum hf h2] at h1; exact h1
def bsP (c e : Nat → Nat) (k p : Nat) : Prop := fb_sm (bsF c e) p ≤ k ∧ k < fb_sm (bsF c e) (p + 1)
theorem bs_mk {c e : Nat → Nat} {k p : Nat} (h1 : fb_sm (bsF c e) p ≤ k) (h2 : k < fb_sm (bsF c e) (p + 1)) : bsP c e k p := ⟨h1, h2⟩
theorem bs_one {c e : Nat → Nat} {k p q : Nat} (h : bsP c e k p) (g : bsP c e k q) : p = q := slot_one h.1 h.2 g.1 g.2
end GFA5
section GFA6
end GFA6
