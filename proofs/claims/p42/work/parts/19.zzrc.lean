section GRC
/-- nearest: which pair -/
theorem xor_str {a b c : Nat} (h1 : a ≤ b) (h2 : b ≤ c) (hd : a ≠ c) : a ^^^ b < a ^^^ c ∨ b ^^^ c < a ^^^ c := by
  have hx : a ^^^ c ≠ 0 := fun q => hd (by
    apply Nat.eq_of_testBit_eq
    intro i
    have q : (a ^^^ c).testBit i = false := by rw [q]; exact Nat.zero_testBit i
    rw [Nat.testBit_xor] at q
    revert q; cases a.testBit i <;> cases c.testBit i <;> simp)
  obtain ⟨k, hk⟩ : ∃ k, k = Nat.log2 (a ^^^ c) := ⟨_, rfl⟩
  have hk1 : 2 ^ k ≤ a ^^^ c := by rw [hk]; exact Nat.log2_self_le hx
  have hk2 : a ^^^ c < 2 ^ (k + 1) := by rw [hk]; exact Nat.lt_log2_self
  have hac : ∀ i, k < i → a.testBit i = c.testBit i := fun i hi => by
    have q : (a ^^^ c).testBit i = false := Nat.testBit_lt_two_pow (Nat.lt_of_lt_of_le hk2 (Nat.pow_le_pow_right (by decide) hi))
    rw [Nat.testBit_xor] at q
    revert q; cases a.testBit i <;> cases c.testBit i <;> simp
  have hdiv : a / 2 ^ (k + 1) = c / 2 ^ (k + 1) := Nat.eq_of_testBit_eq (fun i => by
    rw [Nat.testBit_div_two_pow, Nat.testBit_div_two_pow]; exact hac _ (by omega))
  have hb1 : b / 2 ^ (k + 1) = a / 2 ^ (k + 1) := Nat.le_antisymm (by rw [hdiv]; exact Nat.div_le_div_right h2) (Nat.div_le_div_right h1)
  have hab : ∀ i, k < i → a.testBit i = b.testBit i := fun i hi => by
    obtain ⟨d, rfl⟩ : ∃ d, i = d + (k + 1) := ⟨i - (k + 1), by omega⟩
    rw [← Nat.testBit_div_two_pow, ← Nat.testBit_div_two_pow, hb1]
  have key : ∀ x y : Nat, (∀ i, k ≤ i → x.testBit i = y.testBit i) → x ^^^ y < a ^^^ c := fun x y h => by
    have q : x ^^^ y < 2 ^ k := by
      apply Nat.lt_pow_two_of_testBit
      intro i hi
      rw [Nat.testBit_xor, h i hi]; simp
    omega
  have hne : a.testBit k ≠ c.testBit k := fun q => by
    have q2 : a ^^^ c < 2 ^ k := by
      apply Nat.lt_pow_two_of_testBit
      intro i hi
      rw [Nat.testBit_xor]
      by_cases e : i = k
      · rw [e, q]; simp
      · rw [hac i (by omega)]; simp
    omega
  by_cases hbk : a.testBit k = b.testBit k
  · left
    refine key a b (fun i hi => ?_)
    by_cases e : i = k
    · rw [e]; exact hbk
    · exact hab i (by omega)
  · right
    refine key b c (fun i hi => ?_)
    by_cases e : i = k
    · rw [e]; revert hbk hne; cases a.testBit k <;> cases b.testBit k <;> cases c.testBit k <;> simp
    · rw [← hab i (by omega)]; exact hac i (by omega)
/-- of neighbours the first of the least -/
def nbQ (g : Nat → Int32) (b n : Nat) : Prop := nbP g b n ∧ ∀ u, u < b → xr g b (b + 1) < xr g u (u + 1)
theorem nbq_0 {g : Nat → Int32} : nbQ g 0 1 := ⟨nb_0, fun u h => absurd h (Nat.not_lt_zero u)⟩
theorem nbq_new {g : Nat → Int32} {b v : Nat} (h : nbQ g b v) (hv : xr g v (v + 1) < xr g b (b + 1)) : nbQ g v (v + 1) := ⟨nb_new h.1 hv, fun u hu => by have := h.1 u hu; omega⟩
theorem nbq_old {g : Nat → Int32} {b v : Nat} (h : nbQ g b v) (hv : xr g b (b + 1) ≤ xr g v (v + 1)) : nbQ g b (v + 1) := ⟨nb_old h.1 hv, h.2⟩
def nqP (f : Nat → Int32) (a b : Nat) (x y : Int64) : Prop := ∃ g i, SRV g (cnF f a b) 256 ∧ i + 1 < b - a ∧ nbQ g i (b - a - 1) ∧ x.toInt = (g i).toInt ∧ y.toInt = (g (i + 1)).toInt
theorem nq_mk {f g : Nat → Int32} {a b i n : Nat} {x y : Int64} (H : SRV g (cnF f a b) 256) (hi : i + 1 < b - a) (h : nbQ g i n) (hn : n = b - a - 1) (hx : x.toInt = (g i).toInt) (hy : y.toInt = (g (i + 1)).toInt) : nqP f a b x y := ⟨g, i, H, hi, by rw [← hn]; exact h, hx, hy⟩
theorem nq_row {o m : Nat → Int64} {f g : Nat → Int32} {a b z N : Nat} (h : ∀ j, j < z → f j = g j) (hf : RB 0 255 f) (hab : a ≤ b) (hb : b ≤ z) (h1 : nqP f a b (o 0) (o 1)) (h2 : nqP g a b (m 0) (m 1)) (hN : N = 2) : ∀ j, j < N → o j = m j := by
  obtain ⟨x, i, x1, x2, x3, x4, x5⟩ := h1
  obtain ⟨y, k, y1, y2, y3, y4, y5⟩ := h2
  rw [← cnF_tie h hb] at y1
  have e : ∀ i, i < b - a → x i = y i := fun i hi => sr_eq x1 y1 (by rw [cnF_sum hf hab]; exact hi)
  have ex : ∀ i, i + 1 < b - a → xr x i (i + 1) = xr y i (i + 1) := fun i hi => by unfold xr; rw [e i (by omega), e (i + 1) hi]
  have ei : i = k := by
    rcases Nat.lt_trichotomy i k with q | q | q
    · have q1 := y3.2 i q
      have q2 := x3.1 k (by omega)
      rw [ex i x2, ex k y2] at q2; omega
    · exact q
    · have q1 := x3.2 k q
      have q2 := y3.1 i (by omega)
      rw [ex i x2, ex k y2] at q1; omega
  subst ei
  exact rq_2 hN (rq_eqI x4 y4 (by rw [e i (by omega)])) (rq_eqI x5 y5 (by rw [e (i + 1) x2]))
/-- as the reference finds it: the first pair of the least -/
def nfX (g : Nat → Int32) (n t i j : Nat) (x y : Int) : Prop := t = 256 ∨ ∃ p q, p < q ∧ q < n ∧ (p < i ∨ (p = i ∧ q < j)) ∧ t = xr g p q ∧ x = (g p).toInt ∧ y = (g q).toInt ∧ ∀ u v, u < v → v < n → (u < p ∨ (u = p ∧ v < q)) → t < xr g u v
theorem nf_0 {g : Nat → Int32} {n : Nat} {x y : Int} : nfX g n 256 0 0 x y := Or.inl rfl
theorem nf_in {g : Nat → Int32} {n t i : Nat} {x y : Int} (h : nfX g n t i 0 x y) : nfX g n t i (i + 1) x y := by
  rcases h with h | ⟨p, q, h1, h2, h3, h4⟩
  · exact Or.inl h
  · exact Or.inr ⟨p, q, h1, h2, by omega, h4⟩
theorem nf_less {g : Nat → Int32} {n t u i j : Nat} {x y : Int} (hm : nrX g n t i j) (hij : i < j) (hj : j < n) (hu : u = xr g i j) (hl : u < t) (hx : x = (g i).toInt) (hy : y = (g j).toInt) : nfX g n u i (j + 1) x y :=
  Or.inr ⟨i, j, hij, hj, by omega, hu, hx, hy, fun p q h1 h2 h3 => by have := hm.2 p q h1 h2 h3; omega⟩
theorem nf_more {g : Nat → Int32} {n t i j : Nat} {x y : Int} (h : nfX g n t i j x y) : nfX g n t i (j + 1) x y := by
  rcases h with h | ⟨p, q, h1, h2, h3, h4⟩
  · exact Or.inl h
  · exact Or.inr ⟨p, q, h1, h2, by omega, h4⟩
theorem nf_out {g : Nat → Int32} {n t i j : Nat} {x y : Int} (h : nfX g n t i j x y) : nfX g n t (i + 1) 0 x y := by
  rcases h with h | ⟨p, q, h1, h2, h3, h4⟩
  · exact Or.inl h
  · exact Or.inr ⟨p, q, h1, h2, by omega, h4⟩
theorem nf_end {f g : Nat → Int32} {a b i t : Nat} {x y : Int64} {u v : Int} (hg : RB 0 255 g) (H : SRV g (cnF f a b) 256) (hs : fb_sm (cnF f a b) 256 = b - a) (hm : nrX g (b - a) t i 0) (h : nfX g (b - a) t i 0 u v) (hi : b - a ≤ i) (h2 : 2 ≤ b - a) (hx : x.toInt = u) (hy : y.toInt = v) : nqP f a b x y := by
  have hx9 : xr g 0 1 < 2 ^ 8 := Nat.xor_lt_two_pow (by have := hg 0; omega) (by have := hg 1; omega)
  have q0 := hm.2 0 1 (by omega) (by omega) (by omega)
  rcases h with h | ⟨p, q, h1, h3, h4, h5, h6, h7, h8⟩
  · omega
  have hall : ∀ p q, p < q → q < b - a → t ≤ xr g p q := fun p q a1 a2 => hm.2 p q a1 a2 (by omega)
  have hq : q = p + 1 := by
    rcases Nat.lt_or_ge (p + 1) q with c | c
    · exfalso
      have m1 := sr_mono H (show p ≤ p + 1 by omega) (by omega)
      have m2 := sr_mono H (show p + 1 ≤ q by omega) (by omega)
      have w1 := h8 p (p + 1) (by omega) (by omega) (by omega)
      have w2 := hall (p + 1) q c h3
      by_cases e : (g p).toInt.toNat = (g q).toInt.toNat
      · have e2 : (g (p + 1)).toInt.toNat = (g p).toInt.toNat := by omega
        unfold xr at w1
        rw [e2, Nat.xor_self] at w1
        exact Nat.not_lt_zero _ w1
      · rcases xor_str m1 m2 e with r | r
        · unfold xr at *; omega
        · unfold xr at *; omega
    · omega
  subst hq
  exact ⟨g, p, H, h3, ⟨fun u hu => by rw [← h5]; exact hall u (u + 1) (by omega) (by omega), fun u hu => by rw [← h5]; exact h8 u (u + 1) (by omega) (by omega) (by omega)⟩, by rw [hx, h6], by rw [hy, h7]⟩
/-- dense: which is the least -/
def mfP (R : Nat → Nat) (g : Nat → Int32) (t : Nat) (y : Int) (k : Nat) : Prop := ((t = 0 ∧ y = -1) ∨ ∃ i, i < k ∧ t = R i ∧ y = (g i).toInt ∧ ∀ j, j < i → R j < t) ∧ ∀ j, j < k → R j ≤ t
theorem mf_0 {R : Nat → Nat} {g : Nat → Int32} {y : Int} (hy : y = -1) : mfP R g 0 y 0 := ⟨Or.inl ⟨rfl, hy⟩, fun i h => absurd h (Nat.not_lt_zero i)⟩
theorem mf_new {R : Nat → Nat} {g : Nat → Int32} {t u w k : Nat} {y y' : Int} (h : mfP R g t y k) (hu : u = R k) (hl : t < u) (hw : w = u) (hy : y' = (g k).toInt) : mfP R g w y' (k + 1) := by
  subst hw
  refine ⟨Or.inr ⟨k, by omega, hu, hy, fun j hj => by have := h.2 j hj; omega⟩, fun i hi => ?_⟩
  by_cases e : i = k
  · rw [e, hu]; exact Nat.le_refl _
  · have := h.2 i (by omega); omega
theorem mf_old {R : Nat → Nat} {g : Nat → Int32} {t u w k : Nat} {y : Int} (h : mfP R g t y k) (hu : u = R k) (hl : u ≤ t) (hw : w = t) : mfP R g w y (k + 1) := by
  subst hw
  refine ⟨h.1.elim Or.inl (fun ⟨i, h1, h2⟩ => Or.inr ⟨i, by omega, h2⟩), fun i hi => ?_⟩
  by_cases e : i = k
  · rw [e, ← hu]; exact hl
  · exact h.2 i (by omega)
def dlP (c : Nat → Nat) (w n : Nat) (y : Int) : Prop := (n = 0 ∧ y = -1) ∨ ∃ v : Nat, v < 256 ∧ c v ≠ 0 ∧ y = (v : Int) ∧ (∀ u, u < 256 → c u ≠ 0 → dnN c w u ≤ dnN c w v) ∧ ∀ u, u < v → c u ≠ 0 → dnN c w u < dnN c w v
theorem dl_one {c : Nat → Nat} {w n : Nat} {y z : Int} (hs : fb_sm c 256 = n) (h : dlP c w n y) (g : dlP c w n z) : y = z := by
  rcases h with h | ⟨v, h1, h2, h3, h4, h5⟩ <;> rcases g with g | ⟨x, g1, g2, g3, g4, g5⟩
  · omega
  · exact absurd (fb_sm_zero (show fb_sm c 256 = 0 by omega) x g1) g2
  · exact absurd (fb_sm_zero (show fb_sm c 256 = 0 by omega) v h1) h2
  · rcases Nat.lt_trichotomy v x with q | q | q
    · have := g5 v q h2; have := h4 x g1 g2; omega
    · omega
    · have := h5 x q g2; have := g4 v h1 h2; omega
theorem dl_c {g : Nat → Int32} {c : Nat → Nat} {w n t : Nat} {y : Int} (H : SRV g c 256) (hs : fb_sm c 256 = n) (h : mfP (fun i => fb_ct (rcP g i w) n) g t y n) : dlP c w n y := by
  subst hs
  by_cases h0 : fb_sm c 256 = 0
  · left
    refine ⟨h0, ?_⟩
    rcases h.1 with e | ⟨i, h1, _⟩
    · exact e.2
    · omega
  · right
    have lo : ∀ v, v < 256 → c v ≠ 0 → dnN c w v = fb_ct (rcP g (fb_sm c v) w) (fb_sm c 256) ∧ fb_sm c v < fb_sm c 256 := fun v hv hc => by
      have m := fb_sm_part c hv
      have hi : fb_sm c v < fb_sm c 256 := by omega
      have e := H v hv (fb_sm c v) (Nat.le_refl _) (by rw [fb_sm_succ]; omega)
      have q2 : fb_ct (rcP g (fb_sm c v) w) (fb_sm c 256) = fb_sm c (min (v + w) 255 + 1) - fb_sm c v := rc_eq H hi hv (by rw [e]; exact nI_toInt (by omega)) (Nat.le_refl _) (by rw [fb_sm_succ]; omega)
      exact ⟨by rw [q2]; rfl, hi⟩
    have pos : ∀ i, i < fb_sm c 256 → ∃ v, v < 256 ∧ c v ≠ 0 ∧ (g i).toInt = (v : Int) ∧ fb_sm c v ≤ i ∧ fb_ct (rcP g i w) (fb_sm c 256) ≤ dnN c w v ∧ 0 < fb_ct (rcP g i w) (fb_sm c 256) := fun i hi => by
      obtain ⟨v, v1, v2, v3, v4⟩ := sr_val H hi
      have v5 := v4
      rw [fb_sm_succ] at v4
      have m := sm_mono c (show v + 1 ≤ min (v + w) 255 + 1 by omega)
      have e := rc_eq (w := w) H hi v1 v2 v3 v5
      refine ⟨v, v1, by omega, v2, v3, ?_, ?_⟩
      · rw [e]; unfold dnN; omega
      · rw [e]; omega
    have h2 : ∀ j, j < fb_sm c 256 → fb_ct (rcP g j w) (fb_sm c 256) ≤ t := h.2
    rcases h.1 with e | ⟨i, h1, h3, h4, h5⟩
    · obtain ⟨v, v1, v2, v3, v4, v5, v6⟩ := pos 0 (by omega)
      have := h2 0 (by omega); omega
    · have h3 : t = fb_ct (rcP g i w) (fb_sm c 256) := h3
      have h5 : ∀ j, j < i → fb_ct (rcP g j w) (fb_sm c 256) < t := h5
      obtain ⟨v, v1, v2, v3, v4, v5, v6⟩ := pos i h1
      obtain ⟨l1, l2⟩ := lo v v1 v2
      have l3 := h2 _ l2
      refine ⟨v, v1, v2, by rw [h4, v3], fun u hu hc => ?_, fun u hu hc => ?_⟩
      · obtain ⟨k1, k2⟩ := lo u hu hc
        have k3 := h2 _ k2
        omega
      · obtain ⟨k1, k2⟩ := lo u (by omega) hc
        have m := sm_mono c (show u + 1 ≤ v from hu)
        rw [fb_sm_succ] at m
        have k3 := h5 (fb_sm c u) (by omega)
        omega
theorem dl_r {g : Nat → Int32} {c : Nat → Nat} {w n t : Nat} {y : Int} (H : SRV g c 256) (hs : fb_sm c 256 = n) (h : mfP (fun i => dnN c w (g i).toInt.toNat) g t y n) : dlP c w n y := by
  subst hs
  by_cases h0 : fb_sm c 256 = 0
  · left
    refine ⟨h0, ?_⟩
    rcases h.1 with e | ⟨i, h1, _⟩
    · exact e.2
    · omega
  · right
    have h2 : ∀ j, j < fb_sm c 256 → dnN c w (g j).toInt.toNat ≤ t := h.2
    have lo : ∀ v, v < 256 → c v ≠ 0 → (g (fb_sm c v)).toInt.toNat = v ∧ fb_sm c v < fb_sm c 256 := fun v hv hc => by
      have m := fb_sm_part c hv
      have e := H v hv (fb_sm c v) (Nat.le_refl _) (by rw [fb_sm_succ]; omega)
      exact ⟨by rw [e, nI_toInt (by omega)]; rfl, by omega⟩
    have up : ∀ i, i < fb_sm c 256 → ∃ v : Nat, v < 256 ∧ c v ≠ 0 ∧ (g i).toInt = (v : Int) ∧ fb_sm c v ≤ i := fun i hi => by
      obtain ⟨v, v1, v2, v3, v4⟩ := sr_val H hi
      rw [fb_sm_succ] at v4
      exact ⟨v, v1, by omega, v2, v3⟩
    have dpos : ∀ v, v < 256 → c v ≠ 0 → 0 < dnN c w v := fun v hv hc => by
      have m := sm_mono c (show v + 1 ≤ min (v + w) 255 + 1 by omega)
      rw [fb_sm_succ] at m
      unfold dnN; omega
    rcases h.1 with e | ⟨i, h1, h3, h4, h5⟩
    · obtain ⟨v, v1, v2, v3, v4⟩ := up 0 (by omega)
      have q := h2 0 (by omega)
      rw [v3] at q
      have q2 := dpos v v1 v2
      rw [show ((v : Int)).toNat = v from rfl] at q
      omega
    · obtain ⟨v, v1, v2, v3, v4⟩ := up i h1
      have h3 : t = dnN c w (g i).toInt.toNat := h3
      have h5 : ∀ j, j < i → dnN c w (g j).toInt.toNat < t := h5
      rw [v3, show ((v : Int)).toNat = v from rfl] at h3
      refine ⟨v, v1, v2, by rw [h4, v3], fun u hu hc => ?_, fun u hu hc => ?_⟩
      · obtain ⟨k1, k2⟩ := lo u hu hc
        have k3 := h2 _ k2
        rw [k1] at k3; omega
      · obtain ⟨k1, k2⟩ := lo u (by omega) hc
        have m := sm_mono c (show u + 1 ≤ v from hu)
        rw [fb_sm_succ] at m
        have k3 := h5 (fb_sm c u) (by omega)
        rw [k1] at k3; omega
theorem dl_row {o m : Nat → Int64} {c d : Nat → Nat} {w n N : Nat} (hcd : c = d) (hs : fb_sm c 256 = n) (h : dlP c w n (o 0).toInt) (g : dlP d w n (m 0).toInt) (hN : N = 1) : ∀ j, j < N → o j = m j := by
  subst hcd
  exact rq_1 hN (Int64.toInt_inj.mp (dl_one hs h g))
/-- gap: which pair -/
def gpV (f : Nat → Int32) (a b : Nat) (x y : Int64) : Prop := ∃ g k, SRV g (cnF f a b) 256 ∧ k + 1 < b - a ∧ gpP g k (b - a - 1) ∧ x.toInt = (g k).toInt ∧ y.toInt = (g (k + 1)).toInt
theorem gpv_mk {f g : Nat → Int32} {a b i n : Nat} {x y : Int64} (H : SRV g (cnF f a b) 256) (hi : i + 1 < b - a) (h : gpP g i n) (hn : n = b - a - 1) (hx : x.toInt = (g i).toInt) (hy : y.toInt = (g (i + 1)).toInt) : gpV f a b x y := ⟨g, i, H, hi, by rw [← hn]; exact h, hx, hy⟩
theorem gp_row {o m : Nat → Int64} {f g : Nat → Int32} {a b z N : Nat} (h : ∀ j, j < z → f j = g j) (hf : RB 0 255 f) (hab : a ≤ b) (hb : b ≤ z) (h1 : gpV f a b (o 0) (o 1)) (h2 : gpV g a b (m 0) (m 1)) (hN : N = 2) : ∀ j, j < N → o j = m j := by
  obtain ⟨x, i, x1, x2, x3, x4, x5⟩ := h1
  obtain ⟨y, k, y1, y2, y3, y4, y5⟩ := h2
  rw [← cnF_tie h hb] at y1
  have e : ∀ i, i < b - a → x i = y i := fun i hi => sr_eq x1 y1 (by rw [cnF_sum hf hab]; exact hi)
  have ei : i = k := by
    rcases Nat.lt_trichotomy i k with q | q | q
    · have q1 := y3.2 i q
      have q2 := x3.1 k (by omega)
      rw [e (k + 1) y2, e k (by omega), e (i + 1) x2, e i (by omega)] at q2; omega
    · exact q
    · have q1 := x3.2 k q
      have q2 := y3.1 i (by omega)
      rw [e (k + 1) y2, e k (by omega), e (i + 1) x2, e i (by omega)] at q1; omega
  subst ei
  exact rq_2 hN (rq_eqI x4 y4 (by rw [e i (by omega)])) (rq_eqI x5 y5 (by rw [e (i + 1) x2]))
/-- narrow: the first of the shortest, how many -/
def lnB (f : Nat → Int32) (v m z q l : Nat) : Bool := decide (f l = nI v ∧ 1 ≤ q ∧ l + q ≤ z ∧ cn f v l (l + q) = m ∧ f (l + q - 1) = nI v)
theorem lnB_iff {f : Nat → Int32} {v m z q l : Nat} : lnB f v m z q l = true ↔ lnQ f v m l z q := decide_eq_true_iff
def nvP (f : Nat → Int32) (v m z : Nat) (x : Int) (b s k : Nat) : Prop := (x < 0 ∧ s = 0 ∧ ∀ l, l < k → ∀ q, ¬ lnQ f v m l z q) ∨ (0 ≤ x ∧ b < k ∧ lnQ f v m b z x.toNat ∧ (∀ l, l < b → ¬ lnQ f v m l z x.toNat) ∧ s = fb_ct (lnB f v m z x.toNat) k ∧ ∀ l, l < k → ∀ q : Nat, lnQ f v m l z q → x ≤ (q : Int))
theorem nv_0 {f : Nat → Int32} {v m z b s : Nat} {x : Int} (h : x < 0) (hs : s = 0) : nvP f v m z x b s 0 := Or.inl ⟨h, hs, fun l hl => absurd hl (Nat.not_lt_zero l)⟩
theorem nv_skip {f : Nat → Int32} {v m z k b s : Nat} {x : Int} (h : nvP f v m z x b s k) (g : ∀ q, ¬ lnQ f v m k z q) : nvP f v m z x b s (k + 1) := by
  rcases h with ⟨h1, h2, h3⟩ | ⟨h1, h2, h3, h4, h5, h6⟩
  · exact Or.inl ⟨h1, h2, fun l hl => by
      by_cases e : l = k
      · rw [e]; exact g
      · exact h3 l (by omega)⟩
  · refine Or.inr ⟨h1, by omega, h3, h4, ?_, fun l hl q hq => ?_⟩
    · exact ct_no h5 (by
        cases e : lnB f v m z x.toNat k
        · rfl
        · exact absurd (lnB_iff.mp e) (g _))
    · by_cases e : l = k
      · rw [e] at hq; exact absurd hq (g q)
      · exact h6 l (by omega) q hq
theorem nv_less {f : Nat → Int32} {v m z k b s q b' s' : Nat} {x y : Int} (h : nvP f v m z x b s k) (g : lnQ f v m k z q) (hy : y = (q : Int)) (hl : x < 0 ∨ (q : Int) < x) (hb : b' = k) (hs : s' = 1) : nvP f v m z y b' s' (k + 1) := by
  subst hy hb hs
  have no : ∀ l, l < b' → ¬ lnQ f v m l z q := fun l hl2 hq => by
    rcases h with ⟨h1, h2, h3⟩ | ⟨h1, h2, h3, h4, h5, h6⟩
    · exact h3 l hl2 q hq
    · have := h6 l hl2 q hq; omega
  refine Or.inr ⟨by omega, by omega, by rw [Int.toNat_natCast]; exact g, by rw [Int.toNat_natCast]; exact no, ?_, fun l hl2 r hr => ?_⟩
  · rw [Int.toNat_natCast]
    have z0 : fb_ct (lnB f v m z q) b' = 0 := fb_ct_zero.mpr (fun l hl2 => by
      cases e : lnB f v m z q l
      · rfl
      · exact absurd (lnB_iff.mp e) (no l hl2))
    rw [fb_ct_succ, z0, if_pos (lnB_iff.mpr g)]
  · by_cases e : l = b'
    · rw [e] at hr; rw [ln_one g hr]; exact Int.le_refl _
    · rcases h with ⟨h1, h2, h3⟩ | ⟨h1, h2, h3, h4, h5, h6⟩
      · exact absurd hr (h3 l (by omega) r)
      · have := h6 l (by omega) r hr; omega
theorem nv_same {f : Nat → Int32} {v m z k b s q s' : Nat} {x : Int} (h : nvP f v m z x b s k) (g : lnQ f v m k z q) (hx : x = (q : Int)) (hs : s' = s + 1) : nvP f v m z x b s' (k + 1) := by
  rcases h with ⟨h1, h2, h3⟩ | ⟨h1, h2, h3, h4, h5, h6⟩
  · omega
  · refine Or.inr ⟨h1, by omega, h3, h4, ?_, fun l hl r hr => ?_⟩
    · rw [hs]; exact ct_yes h5 (lnB_iff.mpr (by rw [hx, Int.toNat_natCast]; exact g))
    · by_cases e : l = k
      · rw [e] at hr; rw [hx, ln_one g hr]; exact Int.le_refl _
      · exact h6 l (by omega) r hr
theorem nv_more {f : Nat → Int32} {v m z k b s q : Nat} {x : Int} (h : nvP f v m z x b s k) (g : lnQ f v m k z q) (hx : 0 ≤ x) (hl : x < (q : Int)) : nvP f v m z x b s (k + 1) := by
  rcases h with ⟨h1, h2, h3⟩ | ⟨h1, h2, h3, h4, h5, h6⟩
  · omega
  · refine Or.inr ⟨h1, by omega, h3, h4, ?_, fun l hl2 r hr => ?_⟩
    · exact ct_no h5 (by
        cases e : lnB f v m z x.toNat k
        · rfl
        · have e2 := ln_one g (lnB_iff.mp e); omega)
    · by_cases e : l = k
      · rw [e] at hr; rw [← ln_one g hr]; omega
      · exact h6 l (by omega) r hr
def nvA (f : Nat → Int32) (v m z : Nat) (x y w : Int64) : Prop := ∃ q b s : Nat, b < z ∧ lnQ f v m b z q ∧ (∀ l, l < b → ¬ lnQ f v m l z q) ∧ s = fb_ct (lnB f v m z q) z ∧ (∀ l, l < z → ∀ r : Nat, lnQ f v m l z r → q ≤ r) ∧ x = lN b ∧ y = lN (b + q) ∧ w = lN s
theorem nv_mk {f : Nat → Int32} {v m z k b s q : Nat} {x : Int} {y0 y1 y2 : Int64} (h : nvP f v m z x b s k) (hk : z = k) (hx : 0 ≤ x) (hq : (q : Int) = x) (e0 : y0 = lN b) (e1 : y1 = lN (b + q)) (e2 : y2 = lN s) : nvA f v m z y0 y1 y2 := by
  subst hk
  rcases h with ⟨h1, h2, h3⟩ | ⟨h1, h2, h3, h4, h5, h6⟩
  · omega
  · have e : x.toNat = q := by omega
    rw [e] at h3 h4 h5
    exact ⟨q, b, s, h2, h3, h4, h5, fun l hl r hr => by have := h6 l hl r hr; omega, e0, e1, e2⟩
theorem lnB_cong {f g : Nat → Int32} {v m z q l : Nat} (h : ∀ j, j < z → f j = g j) (hl : l < z) : lnB f v m z q l = lnB g v m z q l := by
  cases e : lnB f v m z q l
  · cases e2 : lnB g v m z q l
    · rfl
    · have := lnB_iff.mpr (ln_cong (fun j hj => (h j hj).symm) hl (lnB_iff.mp e2))
      rw [e] at this; cases this
  · rw [lnB_iff.mpr (ln_cong h hl (lnB_iff.mp e))]
theorem nv_row {o m : Nat → Int64} {f g : Nat → Int32} {v k z N : Nat} (h : ∀ j, j < z → f j = g j) (h1 : nvA f v k z (o 0) (o 1) (o 2)) (h2 : nvA g v k z (m 0) (m 1) (m 2)) (hN : N = 3) : ∀ j, j < N → o j = m j := by
  obtain ⟨q, b, s, a1, a2, a3, a4, a5, a6, a7, a8⟩ := h1
  obtain ⟨q', b', s', c1, c2, c3, c4, c5, c6, c7, c8⟩ := h2
  have hs : ∀ j, j < z → g j = f j := fun j hj => (h j hj).symm
  have e1 : q = q' := by
    have d1 := a5 b' c1 q' (ln_cong hs c1 c2)
    have d2 := c5 b a1 q (ln_cong h a1 a2)
    omega
  subst e1
  have e2 : b = b' := by
    rcases Nat.lt_trichotomy b b' with d | d | d
    · exact absurd (ln_cong h a1 a2) (c3 b d)
    · exact d
    · exact absurd (ln_cong hs c1 c2) (a3 b' d)
  subst e2
  have e3 : s = s' := by rw [a4, c4]; exact fb_ct_cong (fun l hl => lnB_cong h hl)
  subst e3
  exact rq_3 hN (a6.trans c6.symm) (a7.trans c7.symm) (a8.trans c8.symm)
end GRC
section GRC2
/-- rises: ways of the longest that end at p, as far as q has been asked -/
def wf (L W : Nat → Nat) (f : Nat → Int32) (a p : Nat) : Nat → Nat
  | 0 => 1
  | q + 1 => if a ≤ q ∧ (f q).toInt < (f p).toInt then (if rf L f a p q < L q + 1 then W q else if rf L f a p q = L q + 1 then wf L W f a p q + W q else wf L W f a p q) else wf L W f a p q
theorem wf_0 {L W : Nat → Nat} {f : Nat → Int32} {a p : Nat} : ∀ {q : Nat}, q ≤ a → wf L W f a p q = 1
  | 0, _ => rfl
  | q + 1, h => by
    show (if a ≤ q ∧ (f q).toInt < (f p).toInt then _ else wf L W f a p q) = 1
    rw [if_neg (by omega)]; exact wf_0 (by omega)
theorem wf_new {L W : Nat → Nat} {f : Nat → Int32} {a p q : Nat} (ha : a ≤ q) (d : (f q).toInt < (f p).toInt) (hl : rf L f a p q < L q + 1) : wf L W f a p (q + 1) = W q := by
  show (if a ≤ q ∧ (f q).toInt < (f p).toInt then (if rf L f a p q < L q + 1 then W q else _) else _) = _
  rw [if_pos ⟨ha, d⟩, if_pos hl]
theorem wf_add {L W : Nat → Nat} {f : Nat → Int32} {a p q : Nat} (ha : a ≤ q) (d : (f q).toInt < (f p).toInt) (hl : rf L f a p q = L q + 1) : wf L W f a p (q + 1) = wf L W f a p q + W q := by
  show (if a ≤ q ∧ (f q).toInt < (f p).toInt then (if rf L f a p q < L q + 1 then W q else if rf L f a p q = L q + 1 then wf L W f a p q + W q else wf L W f a p q) else _) = _
  rw [if_pos ⟨ha, d⟩, if_neg (by omega), if_pos hl]
theorem wf_no {L W : Nat → Nat} {f : Nat → Int32} {a p q : Nat} (h : ¬ (f q).toInt < (f p).toInt ∨ L q + 1 < rf L f a p q) : wf L W f a p (q + 1) = wf L W f a p q := by
  show (if a ≤ q ∧ (f q).toInt < (f p).toInt then (if rf L f a p q < L q + 1 then W q else if rf L f a p q = L q + 1 then wf L W f a p q + W q else wf L W f a p q) else wf L W f a p q) = _
  by_cases c : a ≤ q ∧ (f q).toInt < (f p).toInt
  · rw [if_pos c, if_neg (by omega), if_neg (by omega)]
  · rw [if_neg c]
theorem wf_cong {L K W V : Nat → Nat} {f g : Nat → Int32} {a p : Nat} (hp : f p = g p) : ∀ {q : Nat}, (∀ i, i < q → L i = K i ∧ W i = V i ∧ f i = g i) → wf L W f a p q = wf K V g a p q
  | 0, _ => rfl
  | q + 1, h => by
    have ih := wf_cong (L := L) (K := K) (W := W) (V := V) (a := a) hp (q := q) (fun i hi => h i (by omega))
    have er : rf L f a p q = rf K g a p q := rf_cong hp (fun i hi => ⟨(h i (by omega)).1, (h i (by omega)).2.2⟩)
    show (if a ≤ q ∧ (f q).toInt < (f p).toInt then (if rf L f a p q < L q + 1 then W q else if rf L f a p q = L q + 1 then wf L W f a p q + W q else wf L W f a p q) else wf L W f a p q) = (if a ≤ q ∧ (g q).toInt < (g p).toInt then (if rf K g a p q < K q + 1 then V q else if rf K g a p q = K q + 1 then wf K V g a p q + V q else wf K V g a p q) else wf K V g a p q)
    rw [ih, er, (h q (by omega)).1, (h q (by omega)).2.1, (h q (by omega)).2.2, hp]
def WT (f : Nat → Int32) (a : Nat) : Nat → Nat → Nat
  | 0, _ => 0
  | p + 1, q => if q = p then wf (LSq f a) (WT f a p) f a p p else WT f a p q
def WYq (f : Nat → Int32) (a p : Nat) : Nat := WT f a (p + 1) p
theorem WT_WY {f : Nat → Int32} {a q : Nat} : ∀ {p : Nat}, q < p → WT f a p q = WYq f a q
  | 0, h => absurd h (Nat.not_lt_zero q)
  | p + 1, h => by
    by_cases e : q = p
    · rw [e]; rfl
    · show (if q = p then wf (LSq f a) (WT f a p) f a p p else WT f a p q) = _
      rw [if_neg e]; exact WT_WY (by omega)
theorem WY_eq {f : Nat → Int32} {a p : Nat} : WYq f a p = wf (LSq f a) (WYq f a) f a p p := by
  show (if p = p then wf (LSq f a) (WT f a p) f a p p else WT f a p p) = _
  rw [if_pos rfl]
  exact wf_cong rfl (fun i hi => ⟨rfl, WT_WY hi, rfl⟩)
theorem WY_cong {f g : Nat → Int32} {a n : Nat} (h : ∀ i, i < n → f i = g i) : ∀ {p : Nat}, p < n → WYq f a p = WYq g a p := by
  intro p
  induction p using Nat.strongRecOn with
  | _ p ih =>
    intro hp
    rw [WY_eq, WY_eq]
    exact wf_cong (h p hp) (fun i hi => ⟨LS_cong h (by omega), ih i hi (by omega), h i (by omega)⟩)
/-- how large they become: so many as the sum of those ahead, or 1 -/
def wS (W : Nat → Nat) (a : Nat) : Nat → Nat := fb_sm (fun i => if a ≤ i then W i else 0)
theorem wf_sum {L W : Nat → Nat} {f : Nat → Int32} {a p : Nat} (hL : ∀ i, 1 ≤ L i) : ∀ q, (rf L f a p q = 1 ∧ wf L W f a p q = 1) ∨ (1 < rf L f a p q ∧ wf L W f a p q ≤ wS W a q)
  | 0 => Or.inl ⟨rfl, rfl⟩
  | q + 1 => by
    have ih := wf_sum (W := W) (f := f) (a := a) (p := p) hL q
    have hq := hL q
    have es : wS W a (q + 1) = wS W a q + (if a ≤ q then W q else 0) := rfl
    by_cases c : a ≤ q ∧ (f q).toInt < (f p).toInt
    · rw [if_pos c.1] at es
      by_cases d : rf L f a p q < L q + 1
      · rw [wf_new c.1 c.2 d, ← rf_y rfl c.1 c.2 d]; right; omega
      · rw [← rf_n (t := rf L f a p q) rfl (Or.inr (by omega))]
        by_cases d2 : rf L f a p q = L q + 1
        · rw [wf_add c.1 c.2 d2]; right; omega
        · rw [wf_no (Or.inr (by omega))]
          rcases ih with ih | ih
          · exact Or.inl ih
          · right; omega
    · have e1 : wf L W f a p (q + 1) = wf L W f a p q := by
        show (if a ≤ q ∧ (f q).toInt < (f p).toInt then _ else wf L W f a p q) = _
        rw [if_neg c]
      have e2 : rf L f a p (q + 1) = rf L f a p q := by
        show (if a ≤ q ∧ (f q).toInt < (f p).toInt ∧ rf L f a p q < L q + 1 then L q + 1 else rf L f a p q) = _
        rw [if_neg (fun z => c ⟨z.1, z.2.1⟩)]
      rw [e1, e2]
      rcases ih with ih | ih
      · exact Or.inl ih
      · right; omega
theorem rf_pos {L : Nat → Nat} {f : Nat → Int32} {a p : Nat} : ∀ q, 1 ≤ rf L f a p q
  | 0 => Nat.le_refl 1
  | q + 1 => by
    show 1 ≤ (if a ≤ q ∧ (f q).toInt < (f p).toInt ∧ rf L f a p q < L q + 1 then L q + 1 else rf L f a p q)
    have := rf_pos (L := L) (f := f) (a := a) (p := p) q
    split <;> omega
theorem LS_pos {f : Nat → Int32} {a : Nat} (p : Nat) : 1 ≤ LSq f a p := by rw [LS_eq]; exact rf_pos p
theorem WY_sum {f : Nat → Int32} {a : Nat} (p : Nat) : (LSq f a p = 1 ∧ WYq f a p = 1) ∨ (1 < LSq f a p ∧ WYq f a p ≤ wS (WYq f a) a p) := by
  have h := wf_sum (L := LSq f a) (W := WYq f a) (f := f) (a := a) (p := p) (fun i => LS_pos i) p
  rw [← LS_eq, ← WY_eq] at h; exact h
theorem LS_a {f : Nat → Int32} {a : Nat} : LSq f a a = 1 := by rw [LS_eq]; exact rf_0 (Nat.le_refl a)
theorem WY_a {f : Nat → Int32} {a : Nat} : WYq f a a = 1 := by rw [WY_eq]; exact wf_0 (Nat.le_refl a)
theorem wS_0 {W : Nat → Nat} {a : Nat} : ∀ {k : Nat}, k ≤ a → wS W a k = 0
  | 0, _ => rfl
  | k + 1, h => by
    show wS W a k + (if a ≤ k then W k else 0) = 0
    rw [wS_0 (by omega), if_neg (by omega)]
theorem wS_s {W : Nat → Nat} {a k : Nat} (h : a ≤ k) : wS W a (k + 1) = wS W a k + W k := by
  show wS W a k + (if a ≤ k then W k else 0) = _
  rw [if_pos h]
theorem wS_le {f : Nat → Int32} {a : Nat} : ∀ k, 1 ≤ wS (WYq f a) a (a + (k + 1)) ∧ wS (WYq f a) a (a + (k + 1)) ≤ 2 ^ k
  | 0 => by
    rw [show a + (0 + 1) = a + 1 from rfl, wS_s (Nat.le_refl a), wS_0 (Nat.le_refl a), WY_a]; decide
  | k + 1 => by
    have ih := wS_le (f := f) (a := a) k
    have h := WY_sum (f := f) (a := a) (a + (k + 1))
    rw [show a + (k + 1 + 1) = a + (k + 1) + 1 from rfl, wS_s (by omega), p2s]
    rcases h with h | h <;> omega
/-- ways of all that end a longest one -/
def twF (f : Nat → Int32) (a L : Nat) : Nat → Nat := fb_sm (fun p => if a ≤ p ∧ LSq f a p = L then WYq f a p else 0)
theorem tw_y {f : Nat → Int32} {a L k : Nat} (h : a ≤ k) (e : LSq f a k = L) : twF f a L (k + 1) = twF f a L k + WYq f a k := by
  show twF f a L k + (if a ≤ k ∧ LSq f a k = L then WYq f a k else 0) = _
  rw [if_pos ⟨h, e⟩]
theorem tw_n {f : Nat → Int32} {a L k : Nat} (e : LSq f a k ≠ L) : twF f a L (k + 1) = twF f a L k := by
  show twF f a L k + (if a ≤ k ∧ LSq f a k = L then WYq f a k else 0) = _
  rw [if_neg (fun q => e q.2)]; rfl
theorem tw_add {f : Nat → Int32} {a L k : Nat} {x y z : Int64} (h : y = lN (twF f a L k)) (e : z = y + x) (hx : x = lN (WYq f a k)) (ha : a ≤ k) (he : LSq f a k = L) : z = lN (twF f a L (k + 1)) := by
  rw [tw_y ha he, e, h, hx, ladd_N]
theorem tw_0 {f : Nat → Int32} {a L : Nat} : ∀ {k : Nat}, k ≤ a → twF f a L k = 0
  | 0, _ => rfl
  | k + 1, h => by
    show twF f a L k + (if a ≤ k ∧ LSq f a k = L then WYq f a k else 0) = 0
    rw [tw_0 (by omega), if_neg (by omega)]
theorem tw_one {f : Nat → Int32} {a : Nat} : ∀ k, twF f a 1 k ≤ k
  | 0 => Nat.le_refl 0
  | k + 1 => by
    have ih := tw_one (f := f) (a := a) k
    show twF f a 1 k + (if a ≤ k ∧ LSq f a k = 1 then WYq f a k else 0) ≤ k + 1
    by_cases c : a ≤ k ∧ LSq f a k = 1
    · rw [if_pos c]
      rcases WY_sum (f := f) (a := a) k with h | h <;> omega
    · rw [if_neg c]; omega
theorem tw_more {f : Nat → Int32} {a L : Nat} (hL : L ≠ 1) : ∀ k, twF f a L (a + (k + 1)) + 1 ≤ wS (WYq f a) a (a + (k + 1))
  | 0 => by
    rw [show a + (0 + 1) = a + 1 from rfl, wS_s (Nat.le_refl a), wS_0 (Nat.le_refl a), WY_a, tw_n (by rw [LS_a]; exact fun q => hL q.symm), tw_0 (Nat.le_refl a)]
    exact Nat.le_refl _
  | k + 1 => by
    have ih := tw_more (f := f) (a := a) hL k
    rw [show a + (k + 1 + 1) = a + (k + 1) + 1 from rfl, wS_s (by omega)]
    by_cases c : LSq f a (a + (k + 1)) = L
    · rw [tw_y (by omega) c]; omega
    · rw [tw_n c]; omega
theorem tw_lt {f : Nat → Int32} {a L b : Nat} (hb : b ≤ 64) : twF f a L b < 9223372036854775808 := by
  by_cases h0 : b ≤ a
  · rw [tw_0 h0]; decide
  · by_cases hL : L = 1
    · have := tw_one (f := f) (a := a) b
      rw [hL]; omega
    · obtain ⟨k, hk⟩ : ∃ k, b = a + (k + 1) := ⟨b - a - 1, by omega⟩
      have h1 := tw_more (f := f) (a := a) hL k
      have h2 := (wS_le (f := f) (a := a) k).2
      have h3 : 2 ^ k ≤ 2 ^ 63 := Nat.pow_le_pow_right (by decide) (by omega)
      have h4 : (2 : Nat) ^ 63 = 9223372036854775808 := by decide
      rw [hk]; omega
theorem tw_cong {f g : Nat → Int32} {a L n : Nat} (h : ∀ i, i < n → f i = g i) : ∀ {k : Nat}, k ≤ n → twF f a L k = twF g a L k := fun {k} hk => fb_sm_cong (fun p hp => by
  show (if a ≤ p ∧ LSq f a p = L then WYq f a p else 0) = (if a ≤ p ∧ LSq g a p = L then WYq g a p else 0)
  rw [LS_cong h (show p < n by omega), WY_cong h (show p < n by omega)])
/-- as the class makes them -/
theorem wy_1 {g g' : Nat → Int64} {L W : Nat → Nat} {f : Nat → Int32} {a k : Nat} (e : g' = vp_updL g k 1) : g' k = lN (wf L W f a k a) := by
  rw [wf_0 (Nat.le_refl a), rq_ua e rfl]; decide +kernel
theorem wy_new {g g' : Nat → Int64} {f : Nat → Int32} {a k j : Nat} (e : g' = vp_updL g k (g j)) (hj : g j = lN (WYq f a j)) (ha : a ≤ j) (d : (f j).toInt < (f k).toInt) (hl : rf (LSq f a) f a k j < LSq f a j + 1) : g' k = lN (wf (LSq f a) (WYq f a) f a k (j + 1)) := by
  rw [rq_ua e rfl, hj, wf_new ha d hl]
theorem wy_add {g g' : Nat → Int64} {f : Nat → Int32} {a k j : Nat} (e : g' = vp_updL g k (g k + g j)) (hk : g k = lN (wf (LSq f a) (WYq f a) f a k j)) (hj : g j = lN (WYq f a j)) (ha : a ≤ j) (d : (f j).toInt < (f k).toInt) (hl : rf (LSq f a) f a k j = LSq f a j + 1) : g' k = lN (wf (LSq f a) (WYq f a) f a k (j + 1)) := by
  rw [rq_ua e rfl, hk, hj, wf_add ha d hl, ladd_N]
theorem wy_no {g : Nat → Int64} {f : Nat → Int32} {a k j : Nat} (hk : g k = lN (wf (LSq f a) (WYq f a) f a k j)) (h : ¬ (f j).toInt < (f k).toInt ∨ LSq f a j + 1 < rf (LSq f a) f a k j) : g k = lN (wf (LSq f a) (WYq f a) f a k (j + 1)) := by
  rw [hk, wf_no h]
theorem wy_o {g g' : Nat → Int64} {k q : Nat} {x y : Int64} (e : g' = vp_updL g k x) (h : q ≠ k) (hq : g q = y) : g' q = y := by rw [rq_uo e (fun z => h z.symm)]; exact hq
/-- the least end -/
def leP (f : Nat → Int32) (a L : Nat) (y : Int) (k : Nat) : Prop := (y = -1 ∧ ∀ p, a ≤ p → p < k → LSq f a p ≠ L) ∨ (0 ≤ y ∧ (∃ p, a ≤ p ∧ p < k ∧ LSq f a p = L ∧ y = (f p).toInt) ∧ ∀ p, a ≤ p → p < k → LSq f a p = L → y ≤ (f p).toInt)
theorem le_0 {f : Nat → Int32} {a L k : Nat} {y : Int} (h : y = -1) (hk : k ≤ a) : leP f a L y k := Or.inl ⟨h, fun p h1 h2 => absurd h1 (by omega)⟩
theorem le_no {f : Nat → Int32} {a L k : Nat} {y : Int} (h : leP f a L y k) (q : LSq f a k ≠ L) : leP f a L y (k + 1) := by
  rcases h with ⟨h1, h2⟩ | ⟨h1, ⟨p, p1, p2, p3, p4⟩, h3⟩
  · exact Or.inl ⟨h1, fun p a1 a2 => by
      by_cases e : p = k
      · rw [e]; exact q
      · exact h2 p a1 (by omega)⟩
  · exact Or.inr ⟨h1, ⟨p, p1, by omega, p3, p4⟩, fun r a1 a2 a3 => by
      by_cases e : r = k
      · rw [e] at a3; exact absurd a3 q
      · exact h3 r a1 (by omega) a3⟩
theorem le_new {f : Nat → Int32} {a L k : Nat} {y z : Int} (h : leP f a L y k) (ha : a ≤ k) (q : LSq f a k = L) (h0 : 0 ≤ (f k).toInt) (hz : z = (f k).toInt) (hl : y < 0 ∨ z ≤ y) : leP f a L z (k + 1) := by
  refine Or.inr ⟨by omega, ⟨k, ha, by omega, q, hz⟩, fun r a1 a2 a3 => ?_⟩
  by_cases e : r = k
  · rw [e, hz]; exact Int.le_refl _
  · rcases h with ⟨h1, h2⟩ | ⟨h1, h2, h3⟩
    · exact absurd a3 (h2 r a1 (by omega))
    · have := h3 r a1 (by omega) a3; omega
theorem le_old {f : Nat → Int32} {a L k : Nat} {y : Int} (h : leP f a L y k) (h0 : 0 ≤ y) (hl : y ≤ (f k).toInt) : leP f a L y (k + 1) := by
  rcases h with ⟨h1, h2⟩ | ⟨h1, ⟨p, p1, p2, p3, p4⟩, h3⟩
  · omega
  · exact Or.inr ⟨h1, ⟨p, p1, by omega, p3, p4⟩, fun r a1 a2 a3 => by
      by_cases e : r = k
      · rw [e]; exact hl
      · exact h3 r a1 (by omega) a3⟩
theorem le_one {f g : Nat → Int32} {a L n k : Nat} {y z : Int} (h : ∀ i, i < n → f i = g i) (hk : k ≤ n) (h1 : leP f a L y k) (h2 : leP g a L z k) : y = z := by
  have eL : ∀ p, p < k → LSq f a p = LSq g a p := fun p hp => LS_cong h (by omega)
  rcases h1 with ⟨a1, a2⟩ | ⟨a1, ⟨p, p1, p2, p3, p4⟩, a3⟩ <;> rcases h2 with ⟨b1, b2⟩ | ⟨b1, ⟨q, q1, q2, q3, q4⟩, b3⟩
  · omega
  · exact absurd (by rw [eL q q2]; exact q3) (a2 q q1 q2)
  · exact absurd (by rw [← eL p p2]; exact p3) (b2 p p1 p2)
  · have c1 := a3 q q1 q2 (by rw [eL q q2]; exact q3)
    have c2 := b3 p p1 p2 (by rw [← eL p p2]; exact p3)
    rw [h q (by omega)] at c1
    rw [← h p (by omega)] at c2
    omega
theorem ri_row {o m : Nat → Int64} {f g : Nat → Int32} {a b z N : Nat} (h : ∀ j, j < z → f j = g j) (hb : b ≤ z) (h1 : leP f a (lmF f a b) (o 0).toInt b) (h2 : leP g a (lmF g a b) (m 0).toInt b) (w1 : o 1 = lN (min (twF f a (lmF f a b) b) 1000000000)) (w2 : m 1 = lN (min (twF g a (lmF g a b) b) 1000000000)) (hN : N = 2) : ∀ j, j < N → o j = m j := by
  have e := lm_cong (a := a) h hb
  rw [← e] at h2 w2
  exact rq_2 hN (Int64.toInt_inj.mp (le_one h hb h1 h2)) (rq_eq w1 w2 (by rw [tw_cong h hb]))
/-- as the reference makes them: no more than so many -/
def cpN (n : Nat) : Nat := min n 1000000000
theorem mn_L {x y z : Int64} {a b : Nat} (ez : z = if y < x then y else x) (hx : x = lN a) (hy : y = lN b) (ha : a < 9223372036854775808) (hb : b < 9223372036854775808) : z = lN (min a b) := by
  have ea : x.toInt = (a : Int) := by rw [hx]; exact pk_lT (by omega)
  have eb : y.toInt = (b : Int) := by rw [hy]; exact pk_lT (by omega)
  rw [ez]
  by_cases c : y < x
  · have h := Int64.lt_iff_toInt_lt.mp c
    rw [if_pos c, hy]; congr 1; omega
  · have h : ¬ y.toInt < x.toInt := fun q => c (Int64.lt_iff_toInt_lt.mpr q)
    rw [if_neg c, hx]; congr 1; omega
theorem cpN_le (n : Nat) : cpN n ≤ 1000000000 := Nat.min_le_right _ _
theorem cp_min {z : Int64} {u v : Nat} (h : z = lN (min 1000000000 (cpN u + cpN v))) : z = lN (cpN (u + v)) := by
  rw [h]; congr 1; unfold cpN; omega
theorem cw_min {z z2 x1 x2 : Int64} {u v : Nat} (ez : z = if z2 < 1000000000 then z2 else 1000000000) (e2 : z2 = x1 + x2) (hk : x1 = lN (cpN u)) (hj : x2 = lN (cpN v)) : z = lN (cpN (u + v)) := by
  have h1 := cpN_le u
  have h2 := cpN_le v
  exact cp_min (mn_L (a := 1000000000) (b := cpN u + cpN v) ez (by decide +kernel) (by rw [e2, hk, hj, ladd_N]) (by decide) (by omega))
theorem cw_1 {g g' : Nat → Int64} {L W : Nat → Nat} {f : Nat → Int32} {a k : Nat} (e : g' = vp_updL g k 1) : g' k = lN (cpN (wf L W f a k a)) := by
  rw [wf_0 (Nat.le_refl a), rq_ua e rfl]; decide +kernel
theorem cw_new {g g' : Nat → Int64} {f : Nat → Int32} {a k j : Nat} (e : g' = vp_updL g k (g j)) (hj : g j = lN (cpN (WYq f a j))) (ha : a ≤ j) (d : (f j).toInt < (f k).toInt) (hl : rf (LSq f a) f a k j < LSq f a j + 1) : g' k = lN (cpN (wf (LSq f a) (WYq f a) f a k (j + 1))) := by
  rw [rq_ua e rfl, hj, wf_new ha d hl]
theorem cw_add {g g' : Nat → Int64} {f : Nat → Int32} {a k j : Nat} {x : Int64} (e : g' = vp_updL g k x) (hx : x = lN (cpN (wf (LSq f a) (WYq f a) f a k j + WYq f a j))) (ha : a ≤ j) (d : (f j).toInt < (f k).toInt) (hl : rf (LSq f a) f a k j = LSq f a j + 1) : g' k = lN (cpN (wf (LSq f a) (WYq f a) f a k (j + 1))) := by
  rw [rq_ua e rfl, hx, wf_add ha d hl]
theorem cw_no {g : Nat → Int64} {f : Nat → Int32} {a k j : Nat} (hk : g k = lN (cpN (wf (LSq f a) (WYq f a) f a k j))) (h : ¬ (f j).toInt < (f k).toInt ∨ LSq f a j + 1 < rf (LSq f a) f a k j) : g k = lN (cpN (wf (LSq f a) (WYq f a) f a k (j + 1))) := by
  rw [hk, wf_no h]
end GRC2
