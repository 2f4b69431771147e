section GFA
/-- a number within what is laid by size -/
theorem sr_rng {g : Nat → Int32} {c : Nat → Nat} {k : Nat} (H : SRV g c 256) (hk : k < fb_sm c 256) : 0 ≤ (g k).toInt ∧ (g k).toInt ≤ 255 := by
  obtain ⟨v, h1, h2, h3⟩ := slot_ex 256 hk
  rw [H v h1 k h2 h3, nI_toInt (by omega)]; omega
end GFA
section GFA2
end GFA2
section GFA3
/-- steps between neighbours by size: the first of the greatest -/
def gpP (g : Nat → Int32) (b n : Nat) : Prop := (∀ u, u < n → (g (u + 1)).toInt - (g u).toInt ≤ (g (b + 1)).toInt - (g b).toInt) ∧ ∀ u, u < b → (g (u + 1)).toInt - (g u).toInt < (g (b + 1)).toInt - (g b).toInt
def gpA (f : Nat → Int32) (a b : Nat) (r : Int32) : Prop := ∃ g k, SRV g (cnF f a b) 256 ∧ k + 1 < b - a ∧ gpP g k (b - a - 1) ∧ r.toInt = (g (k + 1)).toInt - (g k).toInt
theorem gp_mk {f g : Nat → Int32} {a b k n : Nat} {r : Int32} (h : SRV g (cnF f a b) 256) (hk : k + 1 < b - a) (h2 : gpP g k n) (hn : n = b - a - 1) (e : r.toInt = (g (k + 1)).toInt - (g k).toInt) : gpA f a b r := ⟨g, k, h, hk, by rw [← hn]; exact h2, e⟩
theorem gp_0 {g : Nat → Int32} : gpP g 0 1 := ⟨fun u h => by rw [show u = 0 by omega]; exact Int.le_refl _, fun u h => absurd h (Nat.not_lt_zero u)⟩
theorem gp_new {g : Nat → Int32} {b v : Nat} (h : gpP g b v) (hv : (g (b + 1)).toInt - (g b).toInt < (g (v + 1)).toInt - (g v).toInt) : gpP g v (v + 1) := by
  refine ⟨fun u hu => ?_, fun u hu => ?_⟩
  · by_cases e : u = v
    · rw [e]; exact Int.le_refl _
    · have := h.1 u (by omega); omega
  · have := h.1 u hu; omega
theorem gp_old {g : Nat → Int32} {b v : Nat} (h : gpP g b v) (hv : (g (v + 1)).toInt - (g v).toInt ≤ (g (b + 1)).toInt - (g b).toInt) : gpP g b (v + 1) := by
  refine ⟨fun u hu => ?_, h.2⟩
  by_cases e : u = v
  · rw [e]; exact hv
  · exact h.1 u (by omega)
theorem gp_one {f g : Nat → Int32} {a b z : Nat} {r s : Int32} (h : ∀ j, j < z → f j = g j) (hf : RB 0 255 f) (hab : a ≤ b) (hb : b ≤ z) (h1 : gpA f a b r) (h2 : gpA g a b s) : r = s := by
  obtain ⟨x, k, x1, x2, x3, x4⟩ := h1
  obtain ⟨y, m, y1, y2, y3, y4⟩ := h2
  rw [← cnF_tie h hb] at y1
  have e : ∀ i, i < b - a → x i = y i := fun i hi => sr_eq x1 y1 (by rw [cnF_sum hf hab]; exact hi)
  refine my_eqI x4 ?_
  have q1 := x3.1 m (by omega)
  have q2 := y3.1 k (by omega)
  rw [y4]
  rw [e (m + 1) (by omega), e m (by omega), e (k + 1) (by omega), e k (by omega)] at q1
  rw [e (k + 1) (by omega), e k (by omega)]; omega
end GFA3
section GFA4
end GFA4
section GFA5
end GFA5
section GFA6
end GFA6
