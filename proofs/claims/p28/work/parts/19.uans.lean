section GFA
/-- a number within what is laid by size -/
theorem sr_rng {g : Nat → Int32} {c : Nat → Nat} {k : Nat} (H : SRV g c 256) (hk : k < fb_sm c 256) : 0 ≤ (g k).toInt ∧ (g k).toInt ≤ 255 := by
  obtain ⟨v, h1, h2, h3⟩ := slot_ex 256 hk
  rw [H v h1 k h2 h3, nI_toInt (by omega)]; omega
end GFA
section GFA2
end GFA2
section GFA3
end GFA3
section GFA4
end GFA4
section GFA5
end GFA5
section GFA6
end GFA6
