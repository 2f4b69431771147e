section GFW
theorem xor_tri {a b c : Nat} (h1 : a ≤ b) (h2 : b ≤ c) : a ^^^ b ≤ a ^^^ c ∨ b ^^^ c ≤ a ^^^ c := by
  by_cases hd : a ^^^ c = 0
  · have e : a = c := by
      apply Nat.eq_of_testBit_eq
      intro i
      have q : (a ^^^ c).testBit i = false := by rw [hd]; exact Nat.zero_testBit i
      rw [Nat.testBit_xor] at q
      revert q; cases a.testBit i <;> cases c.testBit i <;> simp
    left; rw [show b = a by omega, Nat.xor_self]; exact Nat.zero_le _
  · obtain ⟨k, hk⟩ : ∃ k, k = Nat.log2 (a ^^^ c) := ⟨_, rfl⟩
    have hk1 : 2 ^ k ≤ a ^^^ c := by rw [hk]; exact Nat.log2_self_le hd
    have hk2 : a ^^^ c < 2 ^ (k + 1) := by rw [hk]; exact Nat.lt_log2_self
    have hac : ∀ i, k < i → a.testBit i = c.testBit i := fun i hi => by
      have q : (a ^^^ c).testBit i = false := Nat.testBit_lt_two_pow (Nat.lt_of_lt_of_le hk2 (Nat.pow_le_pow_right (by decide) hi))
      rw [Nat.testBit_xor] at q
      revert q; cases a.testBit i <;> cases c.testBit i <;> simp
    have hdiv : a / 2 ^ (k + 1) = c / 2 ^ (k + 1) := Nat.eq_of_testBit_eq (fun i => by
      rw [Nat.testBit_div_two_pow, Nat.testBit_div_two_pow]; exact hac _ (by omega))
    have hb1 : b / 2 ^ (k + 1) = a / 2 ^ (k + 1) := Nat.le_antisymm (by rw [hdiv]; exact Nat.div_le_div_right h2) (Nat.div_le_div_right h1)
    have hab : ∀ i, k < i → a.testBit i = b.testBit i := fun i hi => by
      obtain ⟨d, rfl⟩ : ∃ d, i = d + (k + 1) := ⟨i - (k + 1), by omega⟩
      rw [← Nat.testBit_div_two_pow, ← Nat.testBit_div_two_pow, hb1]
    have key : ∀ x y : Nat, (∀ i, k ≤ i → x.testBit i = y.testBit i) → x ^^^ y ≤ a ^^^ c := fun x y h => by
      have q : x ^^^ y < 2 ^ k := by
        apply Nat.lt_pow_two_of_testBit
        intro i hi
        rw [Nat.testBit_xor, h i hi]; simp
      omega
    have hne : a.testBit k ≠ c.testBit k := fun q => by
      have q2 : a ^^^ c < 2 ^ k := by
        apply Nat.lt_pow_two_of_testBit
        intro i hi
        rw [Nat.testBit_xor]
        by_cases e : i = k
        · rw [e, q]; simp
        · rw [hac i (by omega)]; simp
      omega
    by_cases hbk : a.testBit k = b.testBit k
    · left
      refine key a b (fun i hi => ?_)
      by_cases e : i = k
      · rw [e]; exact hbk
      · exact hab i (by omega)
    · right
      refine key b c (fun i hi => ?_)
      by_cases e : i = k
      · rw [e]; revert hbk hne; cases a.testBit k <;> cases b.testBit k <;> cases c.testBit k <;> simp
      · rw [← hab i (by omega)]; exact hac i (by omega)
/-- numbers laid by size rise -/
theorem sr_mono {g : Nat → Int32} {c : Nat → Nat} {i j : Nat} (H : SRV g c 256) (hij : i ≤ j) (hj : j < fb_sm c 256) : (g i).toInt.toNat ≤ (g j).toInt.toNat := by
  obtain ⟨v, h1, h2, h3⟩ := slot_ex 256 (show i < fb_sm c 256 by omega)
  obtain ⟨u, g1, g2, g3⟩ := slot_ex 256 hj
  rw [H v h1 i h2 h3, H u g1 j g2 g3, nI_toInt (by omega), nI_toInt (by omega)]
  show v ≤ u
  rcases Nat.lt_or_ge u v with q | q
  · have := sm_mono c (show u + 1 ≤ v from q); omega
  · exact q
/-- exclusive or of two of them -/
def xr (g : Nat → Int32) (i j : Nat) : Nat := (g i).toInt.toNat ^^^ (g j).toInt.toNat
theorem xr_near {g : Nat → Int32} {c : Nat → Nat} {t : Nat} (H : SRV g c 256) (h : ∀ i, i + 1 < fb_sm c 256 → t ≤ xr g i (i + 1)) : ∀ d i, i + (d + 1) < fb_sm c 256 → t ≤ xr g i (i + (d + 1))
  | 0, i, hi => h i hi
  | d + 1, i, hi => by
    have e := xr_near H h d (i + 1) (by omega)
    rw [show i + 1 + (d + 1) = i + (d + 1 + 1) by omega] at e
    have e2 := h i (by omega)
    have m1 := sr_mono H (show i ≤ i + 1 by omega) (by omega)
    have m2 := sr_mono H (show i + 1 ≤ i + (d + 1 + 1) by omega) hi
    rcases xor_tri m1 m2 with q | q
    · exact Nat.le_trans e2 q
    · exact Nat.le_trans e q
def nsP (f : Nat → Int32) (a b : Nat) (r : Nat) : Prop := ∃ g, SRV g (cnF f a b) 256 ∧ (∃ i j, i < j ∧ j < b - a ∧ r = xr g i j) ∧ ∀ i j, i < j → j < b - a → r ≤ xr g i j
/-- of neighbours the least, as the class finds it -/
def nbP (g : Nat → Int32) (b n : Nat) : Prop := ∀ u, u < n → xr g b (b + 1) ≤ xr g u (u + 1)
theorem nb_0 {g : Nat → Int32} : nbP g 0 1 := fun u h => by rw [show u = 0 by omega]; exact Nat.le_refl _
theorem nb_new {g : Nat → Int32} {b v : Nat} (h : nbP g b v) (hv : xr g v (v + 1) < xr g b (b + 1)) : nbP g v (v + 1) := fun u hu => by
  by_cases e : u = v
  · rw [e]; exact Nat.le_refl _
  · have := h u (by omega); omega
theorem nb_old {g : Nat → Int32} {b v : Nat} (h : nbP g b v) (hv : xr g b (b + 1) ≤ xr g v (v + 1)) : nbP g b (v + 1) := fun u hu => by
  by_cases e : u = v
  · rw [e]; exact hv
  · exact h u (by omega)
theorem ns_c {f g : Nat → Int32} {a b k n r : Nat} (H : SRV g (cnF f a b) 256) (hs : fb_sm (cnF f a b) 256 = b - a) (hk : k + 1 < b - a) (h : nbP g k n) (hn : n = b - a - 1) (hr : r = xr g k (k + 1)) : nsP f a b r := by
  refine ⟨g, H, ⟨k, k + 1, by omega, hk, hr⟩, fun i j hij hj => ?_⟩
  obtain ⟨d, rfl⟩ : ∃ d, j = i + (d + 1) := ⟨j - i - 1, by omega⟩
  exact xr_near H (fun u hu => by rw [hr]; exact h u (by omega)) d i (by omega)
/-- of all pairs the least, as the reference finds it -/
def nrX (g : Nat → Int32) (n t i j : Nat) : Prop := (t = 256 ∨ ∃ p q, p < q ∧ q < n ∧ t = xr g p q) ∧ ∀ p q, p < q → q < n → (p < i ∨ (p = i ∧ q < j)) → t ≤ xr g p q
theorem nx9_0 {g : Nat → Int32} {n : Nat} : nrX g n 256 0 0 := ⟨Or.inl rfl, fun p q h1 h2 h3 => by omega⟩
theorem nx9_in {g : Nat → Int32} {n t i : Nat} (h : nrX g n t i 0) : nrX g n t i (i + 1) := ⟨h.1, fun p q h1 h2 h3 => h.2 p q h1 h2 (by omega)⟩
theorem nx9_less {g : Nat → Int32} {n t u i j : Nat} (h : nrX g n t i j) (hij : i < j) (hj : j < n) (hu : u = xr g i j) (hl : u < t) : nrX g n u i (j + 1) := by
  refine ⟨Or.inr ⟨i, j, hij, hj, hu⟩, fun p q h1 h2 h3 => ?_⟩
  by_cases e : p = i ∧ q = j
  · rw [e.1, e.2, hu]; exact Nat.le_refl _
  · have := h.2 p q h1 h2 (by omega); omega
theorem nx9_more {g : Nat → Int32} {n t u i j : Nat} (h : nrX g n t i j) (hu : u = xr g i j) (hl : t ≤ u) : nrX g n t i (j + 1) := by
  refine ⟨h.1, fun p q h1 h2 h3 => ?_⟩
  by_cases e : p = i ∧ q = j
  · rw [e.1, e.2, ← hu]; exact hl
  · exact h.2 p q h1 h2 (by omega)
theorem nx9_out {g : Nat → Int32} {n t i j : Nat} (h : nrX g n t i j) (hj : n ≤ j) : nrX g n t (i + 1) 0 := ⟨h.1, fun p q h1 h2 h3 => h.2 p q h1 h2 (by omega)⟩
theorem ns_r {f g : Nat → Int32} {a b i t : Nat} (hg : RB 0 255 g) (H : SRV g (cnF f a b) 256) (h : nrX g (b - a) t i 0) (hi : b - a ≤ i) (h2 : 2 ≤ b - a) : nsP f a b t := by
  have hx : xr g 0 1 < 2 ^ 8 := Nat.xor_lt_two_pow (by have := hg 0; omega) (by have := hg 1; omega)
  have q := h.2 0 1 (by omega) (by omega) (by omega)
  refine ⟨g, H, ?_, fun p r h1 h3 => h.2 p r h1 h3 (by omega)⟩
  rcases h.1 with e | ⟨p, r, h1, h3, h4⟩
  · omega
  · exact ⟨p, r, h1, h3, h4⟩
end GFW
