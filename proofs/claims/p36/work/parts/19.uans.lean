section GFA
theorem cn_go1 {f : Nat → Int32} {v a k t : Nat} (h : t = cn f v a k) (hak : a ≤ k) (hv : v < 256) (d : (f k).toInt = ((v : Nat) : Int)) : t + 1 = cn f v a (k + 1) := by
  rw [cn_yes hak (my_eqI (a := (v : Int)) d (nI_toInt (by omega))), h]
theorem cn_go0 {f : Nat → Int32} {v a k t : Nat} (h : t = cn f v a k) (hv : v < 256) (d : (f k).toInt ≠ ((v : Nat) : Int)) : t = cn f v a (k + 1) := by
  rw [cn_no (fun e => d (by rw [e]; exact nI_toInt (by omega))), h]
end GFA
section GFA2
end GFA2
section GFA3
end GFA3
section GFA4
end GFA4
section GFA5
end GFA5
section GFA6
end GFA6
