section GFY
theorem nI_tn {x : Int32} (h : 0 ≤ x.toInt) : x = nI x.toInt.toNat := my_nat h
theorem sm_go {F : Nat → Nat} {t k w : Nat} (h : t = fb_sm F k) (hw : w = F k) : t + w = fb_sm F (k + 1) := by rw [fb_sm_succ, h, hw]
/-- numbers of which none like it stands ahead; numbers that stand somewhere; what each counts for -/
def unP (f : Nat → Int32) : Nat → Bool := fun p => decide (cn f (f p).toInt.toNat 0 p = 0)
def unR (c : Nat → Nat) : Nat → Bool := fun v => decide (0 < c v)
def suF (f : Nat → Int32) : Nat → Nat := fun p => (f p).toInt.toNat
def onF (f : Nat → Int32) : Nat → Nat := fun p => 8 - za (f p).toInt.toNat 8
theorem ct_one {p q : Nat → Bool} {v : Nat} (hp : p v = false) (hq : q v = true) : ∀ {n : Nat}, (∀ u, u < n → u ≠ v → p u = q u) → fb_ct q n = fb_ct p n + (if v < n then 1 else 0)
  | 0, _ => rfl
  | n + 1, h => by
    rw [fb_ct_succ, fb_ct_succ, ct_one hp hq (n := n) (fun u hu => h u (by omega))]
    by_cases e : n = v
    · subst e; rw [hp, hq, if_neg (Nat.lt_irrefl n), if_pos (Nat.lt_succ_self n)]; rfl
    · rw [h n (Nat.lt_succ_self n) e]
      by_cases c : v < n
      · rw [if_pos c, if_pos (show v < n + 1 by omega)]; omega
      · rw [if_neg c, if_neg (show ¬ v < n + 1 by omega)]; rfl
theorem un_tie {f : Nat → Int32} (hf : RB 0 255 f) : ∀ n, fb_ct (unP f) n = fb_ct (unR (cnF f 0 n)) 256
  | 0 => by
    have : fb_ct (unR (cnF f 0 0)) 256 = 0 := fb_ct_zero.mpr (fun v _ => decide_eq_false (by show ¬ 0 < cn f v 0 0; exact Nat.lt_irrefl 0))
    rw [this]; rfl
  | n + 1 => by
    have hr := hf n
    have ev : f n = nI (f n).toInt.toNat := nI_tn hr.1
    have hv : (f n).toInt.toNat < 256 := by omega
    have hs : cn f (f n).toInt.toNat 0 (n + 1) = cn f (f n).toInt.toNat 0 n + 1 := cn_yes (Nat.zero_le n) ev
    have ho : ∀ u, u < 256 → u ≠ (f n).toInt.toNat → unR (cnF f 0 n) u = unR (cnF f 0 (n + 1)) u := fun u hu hne => by
      have e : cn f u 0 (n + 1) = cn f u 0 n := cn_no (fun q => hne (by rw [ev] at q; exact ((nI_eq (by omega) (by omega)).mp q).symm))
      show decide (0 < cn f u 0 n) = decide (0 < cn f u 0 (n + 1))
      rw [e]
    rw [fb_ct_succ, un_tie hf n]
    by_cases c : cn f (f n).toInt.toNat 0 n = 0
    · rw [if_pos (show unP f n = true from decide_eq_true c)]
      rw [ct_one (p := unR (cnF f 0 n)) (q := unR (cnF f 0 (n + 1))) (v := (f n).toInt.toNat) (decide_eq_false (by show ¬ 0 < cn f (f n).toInt.toNat 0 n; omega)) (decide_eq_true (by show 0 < cn f (f n).toInt.toNat 0 (n + 1); omega)) ho, if_pos hv]
    · rw [if_neg (by rw [show unP f n = false from decide_eq_false c]; decide), Nat.add_zero]
      refine fb_ct_cong (fun u hu => ?_)
      by_cases e : u = (f n).toInt.toNat
      · rw [e]
        show decide (0 < cn f (f n).toInt.toNat 0 n) = decide (0 < cn f (f n).toInt.toNat 0 (n + 1))
        rw [decide_eq_true (by omega), decide_eq_true (by omega)]
      · exact ho u hu e
end GFY
