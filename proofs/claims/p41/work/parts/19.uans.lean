section GFA
theorem cn_mono {f : Nat → Int32} {v a : Nat} : ∀ {m n : Nat}, m ≤ n → cn f v a m ≤ cn f v a n
  | m, n, h => by
    induction n with
    | zero => rw [show m = 0 by omega]; exact Nat.le_refl _
    | succ n ih =>
      by_cases e : m = n + 1
      · rw [e]; exact Nat.le_refl _
      · have h1 := ih (by omega)
        have h2 : cn f v a (n + 1) = cn f v a n + (if a ≤ n ∧ f n = nI v then 1 else 0) := rfl
        omega
theorem cn_go1 {f : Nat → Int32} {v a k t : Nat} (h : t = cn f v a k) (hak : a ≤ k) (hv : v < 256) (d : (f k).toInt = ((v : Nat) : Int)) : t + 1 = cn f v a (k + 1) := by
  rw [cn_yes hak (my_eqI (a := (v : Int)) d (nI_toInt (by omega))), h]
theorem cn_go0 {f : Nat → Int32} {v a k t : Nat} (h : t = cn f v a k) (hv : v < 256) (d : (f k).toInt ≠ ((v : Nat) : Int)) : t = cn f v a (k + 1) := by
  rw [cn_no (fun e => d (by rw [e]; exact nI_toInt (by omega))), h]
theorem sel_no {f : Nat → Int32} {v k p z : Nat} (h1 : cn f v 0 p = k) (h2 : f p = nI v) (hp : p < z) (h : cn f v 0 z ≤ k) : False := by
  have e1 := cn_yes (Nat.zero_le p) h2
  have := cn_mono (f := f) (v := v) (a := 0) (show p + 1 ≤ z from hp); omega
theorem cn0_tie {f g : Nat → Int32} {v n m : Nat} (h : ∀ j, j < n → f j = g j) (hm : m ≤ n) : cn f v 0 m = cn g v 0 m := cn_cong (fun j hj => h j (by omega))
/-- a number within what is laid by size -/
theorem sr_rng {g : Nat → Int32} {c : Nat → Nat} {k : Nat} (H : SRV g c 256) (hk : k < fb_sm c 256) : 0 ≤ (g k).toInt ∧ (g k).toInt ≤ 255 := by
  obtain ⟨v, h1, h2, h3⟩ := slot_ex 256 hk
  rw [H v h1 k h2 h3, nI_toInt (by omega)]; omega
def kthP (f : Nat → Int32) (a b k : Nat) (r : Int32) : Prop := ∃ g, SRV g (cnF f a b) 256 ∧ r = g k
/-- sums over what is laid by size -/
def smP (f : Nat → Int32) (a b k : Nat) (r : Int32) : Prop := ∃ g, SRV g (cnF f a b) 256 ∧ r.toInt = ((fb_sm (fun i => (g i).toInt.toNat) k : Nat) : Int)
theorem sm_step {g : Nat → Int32} {c : Nat → Nat} {k : Nat} {x y : Int32} (H : SRV g c 256) (hk : k < fb_sm c 256) (h : x.toInt = ((fb_sm (fun i => (g i).toInt.toNat) k : Nat) : Int)) (t : y.toInt = x.toInt + (g k).toInt) : y.toInt = ((fb_sm (fun i => (g i).toInt.toNat) (k + 1) : Nat) : Int) := by
  have hr := sr_rng H hk
  rw [fb_sm_succ, t, h]; omega
theorem sm_bd {g : Nat → Int32} {c : Nat → Nat} (H : SRV g c 256) : ∀ k, k ≤ fb_sm c 256 → fb_sm (fun i => (g i).toInt.toNat) k ≤ 255 * k
  | 0, _ => Nat.le_refl 0
  | k + 1, h => by
    have ih := sm_bd H k (by omega)
    have hr := sr_rng H (k := k) (by omega)
    rw [fb_sm_succ]; omega
/-- the next one below, above -/
def blP (c : Nat → Nat) (v : Int) (r : Int32) : Prop := 0 ≤ r.toInt ∧ r.toInt < v ∧ c r.toInt.toNat ≠ 0 ∧ ∀ u : Nat, r.toInt < (u : Int) → (u : Int) < v → c u = 0
def blN (c : Nat → Nat) (v : Int) : Prop := ∀ u : Nat, (u : Int) < v → c u = 0
theorem bl_no {c : Nat → Nat} {v : Int} {r : Int32} (h : blP c v r) (g : blN c v) : False := h.2.2.1 (g _ (by have := h.1; have := h.2.1; omega))
def abP (c : Nat → Nat) (v : Int) (r : Int32) : Prop := v < r.toInt ∧ 0 ≤ r.toInt ∧ r.toInt < 256 ∧ c r.toInt.toNat ≠ 0 ∧ ∀ u : Nat, v < (u : Int) → (u : Int) < r.toInt → c u = 0
def abN (c : Nat → Nat) (v : Int) : Prop := ∀ u : Nat, v < (u : Int) → u < 256 → c u = 0
theorem ab_no {c : Nat → Nat} {v : Int} {r : Int32} (h : abP c v r) (g : abN c v) : False := h.2.2.2.1 (g _ (by have := h.1; have := h.2.1; omega) (by have := h.2.2.1; have := h.2.1; omega))
/-- the number that stands most often, the least of them -/
def mdP (c : Nat → Nat) (b n : Nat) : Prop := (∀ u, u < n → c u ≤ c b) ∧ ∀ u, u < b → c u < c b
theorem md_0 {c : Nat → Nat} : mdP c 0 1 := ⟨fun u h => by rw [show u = 0 by omega]; exact Nat.le_refl _, fun u h => absurd h (Nat.not_lt_zero u)⟩
theorem md_new {c : Nat → Nat} {b v : Nat} (h : mdP c b v) (hv : c b < c v) : mdP c v (v + 1) := by
  refine ⟨fun u hu => ?_, fun u hu => ?_⟩
  · by_cases e : u = v
    · rw [e]; exact Nat.le_refl _
    · have := h.1 u (by omega); omega
  · have := h.1 u hu; omega
theorem md_old {c : Nat → Nat} {b v : Nat} (h : mdP c b v) (hv : c v ≤ c b) : mdP c b (v + 1) := by
  refine ⟨fun u hu => ?_, h.2⟩
  by_cases e : u = v
  · rw [e]; exact hv
  · exact h.1 u (by omega)
/-- by exclusive or -/
def axF (c : Nat → Nat) (x : Nat) : Nat → Nat := fun u => c (u ^^^ x)
theorem axF_sum {f : Nat → Int32} (hf : RB 0 255 f) {x a b : Nat} (hx : x < 256) (h : a ≤ b) : fb_sm (axF (cnF f a b) x) 256 = b - a := cn_sum hf hx h
end GFA
section GFA2
theorem cnF_64 {f : Nat → Int32} {a b v : Nat} (h : b ≤ 64) : cnF f a b v ≤ 64 := by
  have h1 := cn_le (f := f) (v := v) (a := a) b
  show cn f v a b ≤ 64
  omega
theorem kth_mk {f g : Nat → Int32} {a b k : Nat} {r : Int32} (h : SRV g (cnF f a b) 256) (e : r = g k) : kthP f a b k r := ⟨g, h, e⟩
theorem sm_mk {f g : Nat → Int32} {a b k : Nat} {r : Int32} (h : SRV g (cnF f a b) 256) (e : r.toInt = ((fb_sm (fun i => (g i).toInt.toNat) k : Nat) : Int)) : smP f a b k r := ⟨g, h, e⟩
theorem bl_mk {c : Nat → Nat} {v : Int} {r : Int32} (h1 : 0 ≤ r.toInt) (h2 : r.toInt < v) (h3 : c r.toInt.toNat ≠ 0) (h4 : ∀ u : Nat, r.toInt < (u : Int) → (u : Int) < v → c u = 0) : blP c v r := ⟨h1, h2, h3, h4⟩
theorem bl_nmk {c : Nat → Nat} {v : Int} {x : Int32} (h : x.toInt < 0) (h4 : ∀ u : Nat, x.toInt < (u : Int) → (u : Int) < v → c u = 0) : blN c v := fun u hu => h4 u (by omega) hu
theorem bl_ne {c : Nat → Nat} {x : Int} {w t : Nat} (ew : (w : Int) = x) (ht : t = c w) (h : 0 < t) : c x.toNat ≠ 0 := by
  rw [show x.toNat = w by omega, ← ht]; omega
theorem bl_back {c : Nat → Nat} {v x y : Int} {w t : Nat} (hb : ∀ u : Nat, x < (u : Int) → (u : Int) < v → c u = 0) (ew : (w : Int) = x) (ht : t = c w) (h : t = 0) (hy : y = x - 1) : ∀ u : Nat, y < (u : Int) → (u : Int) < v → c u = 0 := by
  intro u h1 h2
  by_cases e : x < (u : Int)
  · exact hb u e h2
  · rw [show u = w by omega, ← ht, h]
theorem ab_mk {c : Nat → Nat} {v : Int} {r : Int32} (h1 : v < r.toInt) (h0 : 0 ≤ r.toInt) (h2 : r.toInt < 256) (h3 : c r.toInt.toNat ≠ 0) (h4 : ∀ u : Nat, v < (u : Int) → (u : Int) < r.toInt → c u = 0) : abP c v r := ⟨h1, h0, h2, h3, h4⟩
theorem ab_nmk {c : Nat → Nat} {v : Int} {x : Int32} (h : 256 ≤ x.toInt) (h4 : ∀ u : Nat, v < (u : Int) → (u : Int) < x.toInt → c u = 0) : abN c v := fun u hu h2 => h4 u hu (by omega)
theorem ab_back {c : Nat → Nat} {v x y : Int} {w t : Nat} (hb : ∀ u : Nat, v < (u : Int) → (u : Int) < x → c u = 0) (ew : (w : Int) = x) (ht : t = c w) (h : t = 0) (hy : y = x + 1) : ∀ u : Nat, v < (u : Int) → (u : Int) < y → c u = 0 := by
  intro u h1 h2
  by_cases e : (u : Int) < x
  · exact hb u h1 e
  · rw [show u = w by omega, ← ht, h]
end GFA2
section GFA3
/-- so many of a span, of its numbers -/
def ofP (c : Nat → Nat) (m : Nat) : Nat → Bool := fun u => decide (m ≤ c u)
def lnP (c : Nat → Nat) : Nat → Bool := fun u => decide (c u = 1)
theorem md_mk {c : Nat → Nat} {b v : Nat} (h : mdP c b v) (e : v = 256) : mdP c b 256 := by rw [← e]; exact h
/-- pairs turned round: those of place i with places j0 .. j less 1 -/
def tnI (f : Nat → Int32) (i j0 : Nat) : Nat → Nat
  | 0 => 0
  | j + 1 => tnI f i j0 j + (if j0 ≤ j ∧ (f j).toInt < (f i).toInt then 1 else 0)
theorem tnI_0 {f : Nat → Int32} {i j0 : Nat} : ∀ {j : Nat}, j ≤ j0 → tnI f i j0 j = 0
  | 0, _ => rfl
  | j + 1, h => by
    show tnI f i j0 j + (if j0 ≤ j ∧ (f j).toInt < (f i).toInt then 1 else 0) = 0
    rw [tnI_0 (by omega), if_neg (by omega)]
theorem tnI_y {f : Nat → Int32} {i j0 j t u : Nat} (h : t = u + tnI f i j0 j) (h1 : j0 ≤ j) (d : (f j).toInt < (f i).toInt) : t + 1 = u + tnI f i j0 (j + 1) := by
  show _ = u + (tnI f i j0 j + (if j0 ≤ j ∧ (f j).toInt < (f i).toInt then 1 else 0))
  rw [if_pos ⟨h1, d⟩, h]; omega
theorem tnI_n {f : Nat → Int32} {i j0 j t u : Nat} (h : t = u + tnI f i j0 j) (d : ¬ (f j).toInt < (f i).toInt) : t = u + tnI f i j0 (j + 1) := by
  show _ = u + (tnI f i j0 j + (if j0 ≤ j ∧ (f j).toInt < (f i).toInt then 1 else 0))
  rw [if_neg (fun q => d q.2), h]; omega
/-- of the places a .. k less 1 with all behind them below b -/
def tnO (f : Nat → Int32) (a b : Nat) : Nat → Nat
  | 0 => 0
  | k + 1 => tnO f a b k + (if a ≤ k then tnI f k (k + 1) b else 0)
theorem tnO_0 {f : Nat → Int32} {a b : Nat} : ∀ {k : Nat}, k ≤ a → tnO f a b k = 0
  | 0, _ => rfl
  | k + 1, h => by
    show tnO f a b k + (if a ≤ k then tnI f k (k + 1) b else 0) = 0
    rw [tnO_0 (by omega), if_neg (by omega)]
theorem tnO_s {f : Nat → Int32} {a b k t : Nat} (h : t = tnO f a b k + tnI f k (k + 1) b) (hk : a ≤ k) : t = tnO f a b (k + 1) := by
  show t = tnO f a b k + (if a ≤ k then tnI f k (k + 1) b else 0)
  rw [if_pos hk, h]
/-- as many as fit -/
def ftP (f : Nat → Int32) (a b : Nat) (s : Int) (n : Nat) : Prop := ∃ g, SRV g (cnF f a b) 256 ∧ n ≤ b - a ∧ ((fb_sm (fun i => (g i).toInt.toNat) n : Nat) : Int) ≤ s ∧ (n < b - a → s < ((fb_sm (fun i => (g i).toInt.toNat) (n + 1) : Nat) : Int))
theorem ft_mk {f g : Nat → Int32} {a b n : Nat} {s : Int} (h : SRV g (cnF f a b) 256) (h1 : n ≤ b - a) (h2 : ((fb_sm (fun i => (g i).toInt.toNat) n : Nat) : Int) ≤ s) (h3 : n < b - a → s < ((fb_sm (fun i => (g i).toInt.toNat) (n + 1) : Nat) : Int)) : ftP f a b s n := ⟨g, h, h1, h2, h3⟩
/-- steps between neighbours by size: the first of the greatest -/
def gpP (g : Nat → Int32) (b n : Nat) : Prop := (∀ u, u < n → (g (u + 1)).toInt - (g u).toInt ≤ (g (b + 1)).toInt - (g b).toInt) ∧ ∀ u, u < b → (g (u + 1)).toInt - (g u).toInt < (g (b + 1)).toInt - (g b).toInt
def gpA (f : Nat → Int32) (a b : Nat) (r : Int32) : Prop := ∃ g k, SRV g (cnF f a b) 256 ∧ k + 1 < b - a ∧ gpP g k (b - a - 1) ∧ r.toInt = (g (k + 1)).toInt - (g k).toInt
theorem gp_mk {f g : Nat → Int32} {a b k n : Nat} {r : Int32} (h : SRV g (cnF f a b) 256) (hk : k + 1 < b - a) (h2 : gpP g k n) (hn : n = b - a - 1) (e : r.toInt = (g (k + 1)).toInt - (g k).toInt) : gpA f a b r := ⟨g, k, h, hk, by rw [← hn]; exact h2, e⟩
theorem gp_0 {g : Nat → Int32} : gpP g 0 1 := ⟨fun u h => by rw [show u = 0 by omega]; exact Int.le_refl _, fun u h => absurd h (Nat.not_lt_zero u)⟩
theorem gp_new {g : Nat → Int32} {b v : Nat} (h : gpP g b v) (hv : (g (b + 1)).toInt - (g b).toInt < (g (v + 1)).toInt - (g v).toInt) : gpP g v (v + 1) := by
  refine ⟨fun u hu => ?_, fun u hu => ?_⟩
  · by_cases e : u = v
    · rw [e]; exact Int.le_refl _
    · have := h.1 u (by omega); omega
  · have := h.1 u hu; omega
theorem gp_old {g : Nat → Int32} {b v : Nat} (h : gpP g b v) (hv : (g (v + 1)).toInt - (g v).toInt ≤ (g (b + 1)).toInt - (g b).toInt) : gpP g b (v + 1) := by
  refine ⟨fun u hu => ?_, h.2⟩
  by_cases e : u = v
  · rw [e]; exact hv
  · exact h.1 u (by omega)
end GFA3
section GFA4
def axP (c : Nat → Nat) (x k p : Nat) : Prop := fb_sm (axF c x) p ≤ k ∧ k < fb_sm (axF c x) (p + 1)
theorem ax_mk {c : Nat → Nat} {x k p : Nat} (h1 : fb_sm (axF c x) p ≤ k) (h2 : k < fb_sm (axF c x) (p + 1)) : axP c x k p := ⟨h1, h2⟩
theorem far_none {f : Nat → Int32} {a x : Nat} {v : Int} {r : Int32} (h : blP (axF (cnF f a a) x) v r) : False := h.2.2.1 (cn_start (Nat.le_refl a))
end GFA4
section GFA5
def cmP (c e : Nat → Nat) : Nat → Bool := fun u => decide (0 < c u ∧ 0 < e u)
def lkP (c e : Nat → Nat) : Nat → Bool := fun u => decide (0 < c u ∧ e u = 0)
def bsF (c e : Nat → Nat) : Nat → Nat := fun u => c u + e u
theorem bs_sum {f : Nat → Int32} (hf : RB 0 255 f) {a b e d : Nat} (h : a ≤ b) (h2 : e ≤ d) : fb_sm (bsF (cnF f a b) (cnF f e d)) 256 = (b - a) + (d - e) := by
  have h1 := fb_sm_add (cnF f a b) (cnF f e d) 256
  rw [cnF_sum hf h, cnF_sum hf h2] at h1; exact h1
def bsP (c e : Nat → Nat) (k p : Nat) : Prop := fb_sm (bsF c e) p ≤ k ∧ k < fb_sm (bsF c e) (p + 1)
theorem bs_mk {c e : Nat → Nat} {k p : Nat} (h1 : fb_sm (bsF c e) p ≤ k) (h2 : k < fb_sm (bsF c e) (p + 1)) : bsP c e k p := ⟨h1, h2⟩
/-- alike so far, or not -/
def saP (c e : Nat → Nat) (x : Int) (v : Nat) : Prop := (x = -1 ∧ ∀ u, u < v → c u = e u) ∨ (0 ≤ x ∧ ∃ u, u < 256 ∧ c u ≠ e u)
theorem sa_0 {c e : Nat → Nat} {x : Int} (h : x = -1) : saP c e x 0 := Or.inl ⟨h, fun u hu => absurd hu (Nat.not_lt_zero u)⟩
theorem sa_eq {c e : Nat → Nat} {x : Int} {v : Nat} (h : saP c e x v) (q : c v = e v) : saP c e x (v + 1) := by
  rcases h with h | h
  · exact Or.inl ⟨h.1, fun u hu => by
      by_cases c : u = v
      · rw [c]; exact q
      · exact h.2 u (by omega)⟩
  · exact Or.inr h
theorem sa_old {c e : Nat → Nat} {x : Int} {v : Nat} (h : saP c e x v) (q : x ≠ -1) : saP c e x (v + 1) := h.elim (fun h => absurd h.1 q) Or.inr
theorem sa_new {c e : Nat → Nat} {x : Int} {v : Nat} (hv : v < 256) (q : c v ≠ e v) (hx : 0 ≤ x) : saP c e x (v + 1) := Or.inr ⟨hx, v, hv, q⟩
theorem sa_all {c e : Nat → Nat} {x : Int} {v : Nat} (h : saP c e x v) (hv : v = 256) (q : x = -1) : ∀ u, u < 256 → c u = e u := by
  rcases h with h | h
  · rw [← hv]; exact h.2
  · have := h.1; omega
theorem sa_some {c e : Nat → Nat} {x : Int} {v : Nat} (h : saP c e x v) (q : x ≠ -1) : ∃ u, u < 256 ∧ c u ≠ e u := h.elim (fun h => absurd h.1 q) (fun h => h.2)
def saD (c e : Nat → Nat) (y x : Int) : Prop := (y = -1 ∧ ∀ u : Nat, x < (u : Int) → u < 256 → c u = e u) ∨ (0 ≤ y ∧ ∃ u, u < 256 ∧ c u ≠ e u)
theorem sd_0 {c e : Nat → Nat} {x y : Int} (h : y = -1) (hx : x = 255) : saD c e y x := Or.inl ⟨h, fun u h1 h2 => by omega⟩
theorem sd_eq {c e : Nat → Nat} {x y z : Int} {w : Nat} (h : saD c e y x) (ew : (w : Int) = x) (q : c w = e w) (hz : z = x - 1) : saD c e y z := by
  rcases h with h | h
  · exact Or.inl ⟨h.1, fun u h1 h2 => by
      by_cases c : x < (u : Int)
      · exact h.2 u c h2
      · rw [show u = w by omega]; exact q⟩
  · exact Or.inr h
theorem sd_new {c e : Nat → Nat} {x y z : Int} {w : Nat} (ew : (w : Int) = x) (hw : w < 256) (q : c w ≠ e w) (hy : 0 ≤ y) : saD c e y z := Or.inr ⟨hy, w, hw, q⟩
theorem sd_all {c e : Nat → Nat} {x y : Int} (h : saD c e y x) (hx : x < 0) (q : y < 0) : ∀ u, u < 256 → c u = e u := by
  rcases h with h | h
  · exact fun u hu => h.2 u (by omega) hu
  · have := h.1; omega
theorem sd_some {c e : Nat → Nat} {x y : Int} (h : saD c e y x) (q : 0 ≤ y) : ∃ u, u < 256 ∧ c u ≠ e u := h.elim (fun h => absurd q (by have := h.1; omega)) (fun h => h.2)
end GFA5
section GFA6
/-- a head's numbers are those of a block -/
theorem sm_inc {f : Nat → Int32} {a b x : Nat} (e : f b = nI x) (hx : x < 256) : ∀ n, n ≤ 256 → fb_sm (cnF f a (b + 1)) n = fb_sm (cnF f a b) n + (if a ≤ b ∧ x < n then 1 else 0)
  | 0, _ => by rw [if_neg (by omega)]; rfl
  | n + 1, hn => by
    rw [fb_sm_succ, fb_sm_succ, sm_inc e hx n (by omega)]
    have hc : cnF f a (b + 1) n = cnF f a b n + (if a ≤ b ∧ f b = nI n then 1 else 0) := rfl
    have hif : (if a ≤ b ∧ x < n then 1 else 0) + (if a ≤ b ∧ f b = nI n then 1 else 0) = (if a ≤ b ∧ x < n + 1 then 1 else 0 : Nat) := by
      by_cases ha : a ≤ b
      · by_cases hxn : x = n
        · rw [if_neg (show ¬ (a ≤ b ∧ x < n) by omega), if_pos (show a ≤ b ∧ f b = nI n from ⟨ha, by rw [← hxn]; exact e⟩), if_pos (show a ≤ b ∧ x < n + 1 by omega)]
        · have hne : f b ≠ nI n := fun h => hxn (by
            have h1 := congrArg Int32.toInt (e.symm.trans h)
            rw [nI_toInt (by omega), nI_toInt (by omega)] at h1; omega)
          rw [if_neg (show ¬ (a ≤ b ∧ f b = nI n) from fun q => hne q.2)]
          by_cases hl : x < n
          · rw [if_pos (show a ≤ b ∧ x < n from ⟨ha, hl⟩), if_pos (show a ≤ b ∧ x < n + 1 by omega)]
          · rw [if_neg (show ¬ (a ≤ b ∧ x < n) by omega), if_neg (show ¬ (a ≤ b ∧ x < n + 1) by omega)]
      · rw [if_neg (show ¬ (a ≤ b ∧ x < n) by omega), if_neg (show ¬ (a ≤ b ∧ f b = nI n) from fun q => ha q.1), if_neg (show ¬ (a ≤ b ∧ x < n + 1) by omega)]
    rw [hc]; omega
theorem cnl_blk {f : Nat → Int32} (hf : RB 0 255 f) {p h a w : Nat} (hw : w = 2 ^ (8 - p)) (hb : (h + 1) * w ≤ 256) : ∀ b : Nat, cnl f p h a b + fb_sm (cnF f a b) (h * w) = fb_sm (cnF f a b) ((h + 1) * w)
  | 0 => by
    have z : ∀ n, fb_sm (cnF f a 0) n = 0 := fun n => by
      induction n with
      | zero => rfl
      | succ n ih => rw [fb_sm_succ, ih]; rfl
    rw [z, z]; rfl
  | b + 1 => by
    obtain ⟨x, ex, hx⟩ := my_natE (hf b).1
    have hx2 := (hf b).2
    have hwp : 0 < w := by rw [hw]; exact Nat.two_pow_pos _
    have e1 : (h + 1) * w = h * w + w := Nat.succ_mul h w
    have ih := cnl_blk hf (p := p) (h := h) (a := a) hw hb b
    rw [sm_inc ex (by omega) _ hb, sm_inc ex (by omega) (h * w) (by omega)]
    have hc : cnl f p h a (b + 1) = cnl f p h a b + (if a ≤ b ∧ hd (f b) p = h then 1 else 0) := rfl
    have hhd : hd (f b) p = x / w := by unfold hd; rw [ex, nI_toInt (by omega), hw]; rfl
    rw [hc, hhd]
    have hdv : x / w = h ↔ h * w ≤ x ∧ x < h * w + w := by
      constructor
      · intro q
        have q1 := Nat.div_mul_le_self x w
        have q2 := Nat.lt_div_mul_add (a := x) hwp
        rw [q] at q1 q2; exact ⟨q1, q2⟩
      · intro q
        exact Nat.div_eq_of_lt_le (by omega) (by rw [Nat.succ_mul]; omega)
    by_cases ha : a ≤ b
    · by_cases c1 : h * w ≤ x
      · by_cases c2 : x < h * w + w
        · rw [if_pos ⟨ha, hdv.mpr ⟨c1, c2⟩⟩, if_neg (by omega), if_pos (by omega)]; omega
        · rw [if_neg (fun q => c2 (hdv.mp q.2).2), if_neg (by omega), if_neg (by omega)]; omega
      · rw [if_neg (fun q => c1 (hdv.mp q.2).1), if_pos (by omega), if_pos (by omega)]; omega
    · rw [if_neg (by omega), if_neg (by omega), if_neg (by omega)]; omega
def spP (f : Nat → Int32) (p a b : Nat) : Nat → Bool := fun h => decide (0 < cnl f p h a b)
/-- narrow: the shortest span from l on with m of v, both ends v -/
def lnQ (f : Nat → Int32) (v m l z q : Nat) : Prop := f l = nI v ∧ 1 ≤ q ∧ l + q ≤ z ∧ cn f v l (l + q) = m ∧ f (l + q - 1) = nI v
theorem ln_mk {f : Nat → Int32} {v m l z k q : Nat} (h1 : f l = nI v) (hq : k + 1 = l + q) (hlk : l ≤ k) (hz : k < z) (hc : cn f v l (k + 1) = m) (hk : f k = nI v) : lnQ f v m l z q := by
  refine ⟨h1, by omega, by omega, by rw [← hq]; exact hc, ?_⟩
  rw [show l + q - 1 = k by omega]; exact hk
theorem ln_one {f : Nat → Int32} {v m l z q r : Nat} (h : lnQ f v m l z q) (g : lnQ f v m l z r) : q = r := by
  obtain ⟨h1, h2, h3, h4, h5⟩ := h
  obtain ⟨g1, g2, g3, g4, g5⟩ := g
  rcases Nat.lt_trichotomy q r with c | c | c
  · have e := cn_yes (f := f) (v := v) (a := l) (b := l + r - 1) (by omega) g5
    have m1 := cn_mono (f := f) (v := v) (a := l) (show l + q ≤ l + r - 1 by omega)
    rw [show l + r - 1 + 1 = l + r by omega] at e; omega
  · exact c
  · have e := cn_yes (f := f) (v := v) (a := l) (b := l + q - 1) (by omega) h5
    have m1 := cn_mono (f := f) (v := v) (a := l) (show l + r ≤ l + q - 1 by omega)
    rw [show l + q - 1 + 1 = l + q by omega] at e; omega
theorem ln_no0 {f : Nat → Int32} {v m l z : Nat} (h : f l ≠ nI v) : ∀ q, ¬ lnQ f v m l z q := fun q g => h g.1
theorem ln_no {f : Nat → Int32} {v m l z k : Nat} (hc : cn f v l k < m) (hk : z ≤ k) : ∀ q, ¬ lnQ f v m l z q := fun q g => by
  have m1 := cn_mono (f := f) (v := v) (a := l) (show l + q ≤ k by have := g.2.2.1; omega)
  have := g.2.2.2.1; omega
theorem ln_cong {f g : Nat → Int32} {v m l z q : Nat} (h : ∀ j, j < z → f j = g j) (hl : l < z) : lnQ f v m l z q → lnQ g v m l z q := fun p => by
  obtain ⟨h1, h2, h3, h4, h5⟩ := p
  exact ⟨by rw [← h l hl]; exact h1, h2, h3, by rw [← cn_cong (fun j hj => h j (by omega))]; exact h4, by rw [← h _ (by omega)]; exact h5⟩
/-- as far as l: none yet (x below 0), or x the shortest -/
def nrP (f : Nat → Int32) (v m z : Nat) (x : Int) (k : Nat) : Prop := (x < 0 ∧ ∀ l, l < k → ∀ q, ¬ lnQ f v m l z q) ∨ (0 ≤ x ∧ (∃ l, l < k ∧ lnQ f v m l z x.toNat) ∧ ∀ l, l < k → ∀ q : Nat, lnQ f v m l z q → x ≤ (q : Int))
theorem nr_0 {f : Nat → Int32} {v m z : Nat} {x : Int} (h : x < 0) : nrP f v m z x 0 := Or.inl ⟨h, fun l hl => absurd hl (Nat.not_lt_zero l)⟩
theorem nr_skip {f : Nat → Int32} {v m z k : Nat} {x : Int} (h : nrP f v m z x k) (g : ∀ q, ¬ lnQ f v m k z q) : nrP f v m z x (k + 1) := by
  rcases h with h | h
  · exact Or.inl ⟨h.1, fun l hl => by
      by_cases e : l = k
      · rw [e]; exact g
      · exact h.2 l (by omega)⟩
  · obtain ⟨h1, ⟨l, h2, h3⟩, h4⟩ := h
    exact Or.inr ⟨h1, ⟨l, by omega, h3⟩, fun l hl q hq => by
      by_cases e : l = k
      · rw [e] at hq; exact absurd hq (g q)
      · exact h4 l (by omega) q hq⟩
theorem nr_less {f : Nat → Int32} {v m z k q : Nat} {x y : Int} (h : nrP f v m z x k) (g : lnQ f v m k z q) (hy : y = (q : Int)) (hl : x < 0 ∨ (q : Int) < x) : nrP f v m z y (k + 1) := by
  subst hy
  refine Or.inr ⟨by omega, ⟨k, by omega, by rw [Int.toNat_natCast]; exact g⟩, fun l hl2 r hr => ?_⟩
  by_cases e : l = k
  · rw [e] at hr; rw [ln_one g hr]; exact Int.le_refl _
  · rcases h with h | h
    · exact absurd hr (h.2 l (by omega) r)
    · have := h.2.2 l (by omega) r hr; omega
theorem nr_more {f : Nat → Int32} {v m z k q : Nat} {x : Int} (h : nrP f v m z x k) (g : lnQ f v m k z q) (hx : 0 ≤ x) (hl : x ≤ (q : Int)) : nrP f v m z x (k + 1) := by
  rcases h with h | h
  · have := h.1; omega
  · obtain ⟨h1, ⟨l, h2, h3⟩, h4⟩ := h
    exact Or.inr ⟨h1, ⟨l, by omega, h3⟩, fun l hl2 r hr => by
      by_cases e : l = k
      · rw [e] at hr; rw [← ln_one g hr]; exact hl
      · exact h4 l (by omega) r hr⟩
def nrA (f : Nat → Int32) (v m z : Nat) (r : Int32) : Prop := (∃ l, l < z ∧ lnQ f v m l z r.toInt.toNat) ∧ ∀ l, l < z → ∀ q : Nat, lnQ f v m l z q → r.toInt ≤ (q : Int)
def nrN (f : Nat → Int32) (v m z : Nat) : Prop := ∀ l, l < z → ∀ q, ¬ lnQ f v m l z q
theorem nr_yes {f : Nat → Int32} {v m z k : Nat} {x : Int} {r : Int32} (h : nrP f v m z x k) (hk : z = k) (hx : 0 ≤ x) (hr : r.toInt = x) : nrA f v m z r := by
  subst hk
  rcases h with h | h
  · have := h.1; omega
  · rw [← hr] at h; exact h.2
theorem nr_no {f : Nat → Int32} {v m z k : Nat} {x : Int} (h : nrP f v m z x k) (hk : z = k) (hx : x < 0) : nrN f v m z := by
  subst hk
  rcases h with h | h
  · exact h.2
  · have := h.1; omega
theorem nr_cl {f g : Nat → Int32} {v m z : Nat} {r : Int32} (e : ∀ j, j < z → f j = g j) (h : nrA f v m z r) (p : nrN g v m z) : False := by
  obtain ⟨⟨l, h1, h2⟩, _⟩ := h
  exact p l h1 _ (ln_cong e h1 h2)
end GFA6
