section GFA
/-- a number within what is laid by size -/
theorem sr_rng {g : Nat → Int32} {c : Nat → Nat} {k : Nat} (H : SRV g c 256) (hk : k < fb_sm c 256) : 0 ≤ (g k).toInt ∧ (g k).toInt ≤ 255 := by
  obtain ⟨v, h1, h2, h3⟩ := slot_ex 256 hk
  rw [H v h1 k h2 h3, nI_toInt (by omega)]; omega
theorem sm_step {g : Nat → Int32} {c : Nat → Nat} {k : Nat} {x y : Int32} (H : SRV g c 256) (hk : k < fb_sm c 256) (h : x.toInt = ((fb_sm (fun i => (g i).toInt.toNat) k : Nat) : Int)) (t : y.toInt = x.toInt + (g k).toInt) : y.toInt = ((fb_sm (fun i => (g i).toInt.toNat) (k + 1) : Nat) : Int) := by
  have hr := sr_rng H hk
  rw [fb_sm_succ, t, h]; omega
theorem sm_bd {g : Nat → Int32} {c : Nat → Nat} (H : SRV g c 256) : ∀ k, k ≤ fb_sm c 256 → fb_sm (fun i => (g i).toInt.toNat) k ≤ 255 * k
  | 0, _ => Nat.le_refl 0
  | k + 1, h => by
    have ih := sm_bd H k (by omega)
    have hr := sr_rng H (k := k) (by omega)
    rw [fb_sm_succ]; omega
end GFA
section GFA2
end GFA2
section GFA3
/-- as many as fit -/
def ftP (f : Nat → Int32) (a b : Nat) (s : Int) (n : Nat) : Prop := ∃ g, SRV g (cnF f a b) 256 ∧ n ≤ b - a ∧ ((fb_sm (fun i => (g i).toInt.toNat) n : Nat) : Int) ≤ s ∧ (n < b - a → s < ((fb_sm (fun i => (g i).toInt.toNat) (n + 1) : Nat) : Int))
theorem ft_mk {f g : Nat → Int32} {a b n : Nat} {s : Int} (h : SRV g (cnF f a b) 256) (h1 : n ≤ b - a) (h2 : ((fb_sm (fun i => (g i).toInt.toNat) n : Nat) : Int) ≤ s) (h3 : n < b - a → s < ((fb_sm (fun i => (g i).toInt.toNat) (n + 1) : Nat) : Int)) : ftP f a b s n := ⟨g, h, h1, h2, h3⟩
theorem ft_one {f g : Nat → Int32} {a b n m z : Nat} {s : Int} (h : ∀ j, j < z → f j = g j) (hf : RB 0 255 f) (hab : a ≤ b) (hb : b ≤ z) (h1 : ftP f a b s n) (h2 : ftP g a b s m) : n = m := by
  obtain ⟨x, x1, x2, x3, x4⟩ := h1
  obtain ⟨y, y1, y2, y3, y4⟩ := h2
  rw [← cnF_tie h hb] at y1
  have e : ∀ k, k ≤ b - a → fb_sm (fun i => (x i).toInt.toNat) k = fb_sm (fun i => (y i).toInt.toNat) k := fun k hk => fb_sm_cong (fun i hi => by
    show (x i).toInt.toNat = (y i).toInt.toNat
    rw [sr_eq x1 y1 (by rw [cnF_sum hf hab]; omega)])
  rcases Nat.lt_trichotomy n m with q | q | q
  · have q1 := x4 (by omega)
    have q2 := sm_mono (fun i => (x i).toInt.toNat) (show n + 1 ≤ m from q)
    rw [← e m y2] at y3; omega
  · exact q
  · have q1 := y4 (by omega)
    have q2 := sm_mono (fun i => (y i).toInt.toNat) (show m + 1 ≤ n from q)
    rw [e n x2] at x3; omega
end GFA3
section GFA4
end GFA4
section GFA5
end GFA5
section GFA6
end GFA6
