section GFA
/-- a number within what is laid by size -/
theorem sr_rng {g : Nat → Int32} {c : Nat → Nat} {k : Nat} (H : SRV g c 256) (hk : k < fb_sm c 256) : 0 ≤ (g k).toInt ∧ (g k).toInt ≤ 255 := by
  obtain ⟨v, h1, h2, h3⟩ := slot_ex 256 hk
  rw [H v h1 k h2 h3, nI_toInt (by omega)]; omega
/-- sums over what is laid by size -/
def smP (f : Nat → Int32) (a b k : Nat) (r : Int32) : Prop := ∃ g, SRV g (cnF f a b) 256 ∧ r.toInt = ((fb_sm (fun i => (g i).toInt.toNat) k : Nat) : Int)
theorem sm_one {f g : Nat → Int32} {a b k n : Nat} {r s : Int32} (h : ∀ j, j < n → f j = g j) (hf : RB 0 255 f) (hab : a ≤ b) (hb : b ≤ n) (hk : k ≤ b - a) (h1 : smP f a b k r) (h2 : smP g a b k s) : r = s := by
  obtain ⟨x, x1, x2⟩ := h1
  obtain ⟨y, y1, y2⟩ := h2
  rw [← cnF_tie h hb] at y1
  have e : fb_sm (fun i => (x i).toInt.toNat) k = fb_sm (fun i => (y i).toInt.toNat) k := fb_sm_cong (fun i hi => by
    show (x i).toInt.toNat = (y i).toInt.toNat
    rw [sr_eq x1 y1 (by rw [cnF_sum hf hab]; omega)])
  exact my_eqI x2 (by rw [y2, e])
theorem sm_step {g : Nat → Int32} {c : Nat → Nat} {k : Nat} {x y : Int32} (H : SRV g c 256) (hk : k < fb_sm c 256) (h : x.toInt = ((fb_sm (fun i => (g i).toInt.toNat) k : Nat) : Int)) (t : y.toInt = x.toInt + (g k).toInt) : y.toInt = ((fb_sm (fun i => (g i).toInt.toNat) (k + 1) : Nat) : Int) := by
  have hr := sr_rng H hk
  rw [fb_sm_succ, t, h]; omega
theorem sm_bd {g : Nat → Int32} {c : Nat → Nat} (H : SRV g c 256) : ∀ k, k ≤ fb_sm c 256 → fb_sm (fun i => (g i).toInt.toNat) k ≤ 255 * k
  | 0, _ => Nat.le_refl 0
  | k + 1, h => by
    have ih := sm_bd H k (by omega)
    have hr := sr_rng H (k := k) (by omega)
    rw [fb_sm_succ]; omega
end GFA
section GFA2
theorem sm_mk {f g : Nat → Int32} {a b k : Nat} {r : Int32} (h : SRV g (cnF f a b) 256) (e : r.toInt = ((fb_sm (fun i => (g i).toInt.toNat) k : Nat) : Int)) : smP f a b k r := ⟨g, h, e⟩
end GFA2
section GFA3
end GFA3
section GFA4
end GFA4
section GFA5
end GFA5
section GFA6
end GFA6
