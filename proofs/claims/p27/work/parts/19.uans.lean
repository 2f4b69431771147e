section GFA
end GFA
section GFA2
theorem cnF_64 {f : Nat → Int32} {a b v : Nat} (h : b ≤ 64) : cnF f a b v ≤ 64 := by
  have h1 := cn_le (f := f) (v := v) (a := a) b
  show cn f v a b ≤ 64
  omega
end GFA2
section GFA3
end GFA3
section GFA4
end GFA4
section GFA5
end GFA5
section GFA6
/-- a head's numbers are those of a block -/
theorem sm_inc {f : Nat → Int32} {a b x : Nat} (e : f b = nI x) (hx : x < 256) : ∀ n, n ≤ 256 → fb_sm (cnF f a (b + 1)) n = fb_sm (cnF f a b) n + (if a ≤ b ∧ x < n then 1 else 0)
  | 0, _ => by rw [if_neg (by omega)]; rfl
  | n + 1, hn => by
    rw [fb_sm_succ, fb_sm_succ, sm_inc e hx n (by omega)]
    have hc : cnF f a (b + 1) n = cnF f a b n + (if a ≤ b ∧ f b = nI n then 1 else 0) := rfl
    have hif : (if a ≤ b ∧ x < n then 1 else 0) + (if a ≤ b ∧ f b = nI n then 1 else 0) = (if a ≤ b ∧ x < n + 1 then 1 else 0 : Nat) := by
      by_cases ha : a ≤ b
      · by_cases hxn : x = n
        · rw [if_neg (show ¬ (a ≤ b ∧ x < n) by omega), if_pos (show a ≤ b ∧ f b = nI n from ⟨ha, by rw [← hxn]; exact e⟩), if_pos (show a ≤ b ∧ x < n + 1 by omega)]
        · have hne : f b ≠ nI n := fun h => hxn (by
            have h1 := congrArg Int32.toInt (e.symm.trans h)
            rw [nI_toInt (by omega), nI_toInt (by omega)] at h1; omega)
          rw [if_neg (show ¬ (a ≤ b ∧ f b = nI n) from fun q => hne q.2)]
          by_cases hl : x < n
          · rw [if_pos (show a ≤ b ∧ x < n from ⟨ha, hl⟩), if_pos (show a ≤ b ∧ x < n + 1 by omega)]
          · rw [if_neg (show ¬ (a ≤ b ∧ x < n) by omega), if_neg (show ¬ (a ≤ b ∧ x < n + 1) by omega)]
      · rw [if_neg (show ¬ (a ≤ b ∧ x < n) by omega), if_neg (show ¬ (a ≤ b ∧ f b = nI n) from fun q => ha q.1), if_neg (show ¬ (a ≤ b ∧ x < n + 1) by omega)]
    rw [hc]; omega
theorem cnl_blk {f : Nat → Int32} (hf : RB 0 255 f) {p h a w : Nat} (hw : w = 2 ^ (8 - p)) (hb : (h + 1) * w ≤ 256) : ∀ b : Nat, cnl f p h a b + fb_sm (cnF f a b) (h * w) = fb_sm (cnF f a b) ((h + 1) * w)
  | 0 => by
    have z : ∀ n, fb_sm (cnF f a 0) n = 0 := fun n => by
      induction n with
      | zero => rfl
      | succ n ih => rw [fb_sm_succ, ih]; rfl
    rw [z, z]; rfl
  | b + 1 => by
    obtain ⟨x, ex, hx⟩ := my_natE (hf b).1
    have hx2 := (hf b).2
    have hwp : 0 < w := by rw [hw]; exact Nat.two_pow_pos _
    have e1 : (h + 1) * w = h * w + w := Nat.succ_mul h w
    have ih := cnl_blk hf (p := p) (h := h) (a := a) hw hb b
    rw [sm_inc ex (by omega) _ hb, sm_inc ex (by omega) (h * w) (by omega)]
    have hc : cnl f p h a (b + 1) = cnl f p h a b + (if a ≤ b ∧ hd (f b) p = h then 1 else 0) := rfl
    have hhd : hd (f b) p = x / w := by unfold hd; rw [ex, nI_toInt (by omega), hw]; rfl
    rw [hc, hhd]
    have hdv : x / w = h ↔ h * w ≤ x ∧ x < h * w + w := by
      constructor
      · intro q
        have q1 := Nat.div_mul_le_self x w
        have q2 := Nat.lt_div_mul_add (a := x) hwp
        rw [q] at q1 q2; exact ⟨q1, q2⟩
      · intro q
        exact Nat.div_eq_of_lt_le (by omega) (by rw [Nat.succ_mul]; omega)
    by_cases ha : a ≤ b
    · by_cases c1 : h * w ≤ x
      · by_cases c2 : x < h * w + w
        · rw [if_pos ⟨ha, hdv.mpr ⟨c1, c2⟩⟩, if_neg (by omega), if_pos (by omega)]; omega
        · rw [if_neg (fun q => c2 (hdv.mp q.2).2), if_neg (by omega), if_neg (by omega)]; omega
      · rw [if_neg (fun q => c1 (hdv.mp q.2).1), if_pos (by omega), if_pos (by omega)]; omega
    · rw [if_neg (by omega), if_neg (by omega), if_neg (by omega)]; omega
def spP (f : Nat → Int32) (p a b : Nat) : Nat → Bool := fun h => decide (0 < cnl f p h a b)
theorem sp_tie {f g : Nat → Int32} {p a b n : Nat} (h : ∀ j, j < n → f j = g j) (hb : b ≤ n) : spP f p a b = spP g p a b := by
  funext w; unfold spP; rw [cnl_cong (fun j hj => h j (by omega))]
end GFA6
