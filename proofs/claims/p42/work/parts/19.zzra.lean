section GRA
/-- rows of told numbers -/
theorem rq_ua {f g : Nat → Int64} {k j : Nat} {x : Int64} (e : g = vp_updL f k x) (h : k = j) : g j = x := by subst h; exact updL_s e
theorem rq_uo {f g : Nat → Int64} {k j : Nat} {x : Int64} (e : g = vp_updL f k x) (h : k ≠ j) : g j = f j := updL_o e (fun q => h q.symm)
theorem rq_ul {f g F : Nat → Int64} {k m : Nat} {v : Int64} (e : g = vp_updL f m v) (hm : m = k) (hv : v = F k) (h : ∀ j, j < k → f j = F j) : ∀ j, j < k + 1 → g j = F j := by
  intro j hj
  by_cases c : j = k
  · rw [c, rq_ua e hm, hv]
  · rw [rq_uo e (by omega)]; exact h j (by omega)
theorem rq_eq {x y : Int64} {a b : Nat} (hx : x = lN a) (hy : y = lN b) (h : a = b) : x = y := by rw [hx, hy, h]
theorem rq_eqI {x y : Int64} {a b : Int} (hx : x.toInt = a) (hy : y.toInt = b) (h : a = b) : x = y := Int64.toInt_inj.mp (by rw [hx, hy, h])
theorem rq_i64 {x : Int64} {y : Int32} (h : x = y.toInt64) : x.toInt = y.toInt := by rw [h]; exact Int32.toInt_toInt64 _
theorem rq_1 {o m : Nat → Int64} {n : Nat} (hn : n = 1) (h : o 0 = m 0) : ∀ j, j < n → o j = m j := by
  intro j hj
  rw [show j = 0 by omega]; exact h
theorem rq_2 {o m : Nat → Int64} {n : Nat} (hn : n = 2) (h : o 0 = m 0) (h1 : o 1 = m 1) : ∀ j, j < n → o j = m j := by
  intro j hj
  rcases (show j = 0 ∨ j = 1 by omega) with e | e
  · rw [e]; exact h
  · rw [e]; exact h1
theorem rq_3 {o m : Nat → Int64} {n : Nat} (hn : n = 3) (h : o 0 = m 0) (h1 : o 1 = m 1) (h2 : o 2 = m 2) : ∀ j, j < n → o j = m j := by
  intro j hj
  rcases (show j = 0 ∨ j = 1 ∨ j = 2 by omega) with e | e | e
  · rw [e]; exact h
  · rw [e]; exact h1
  · rw [e]; exact h2
theorem rq_all {o m : Nat → Int64} {F G : Nat → Nat} {n N : Nat} (h : ∀ j, j < N → o j = lN (F j)) (g : ∀ j, j < N → m j = lN (G j)) (e : ∀ j, j < N → F j = G j) (hn : n = N) : ∀ j, j < n → o j = m j := by
  subst hn
  intro j hj
  rw [h j hj, g j hj, e j hj]
/-- lists: numbers with P, w each, from place s on, lim of them at most -/
def rLs (o : Nat → Int64) (P : Nat → Bool) (F : Nat → Nat → Nat) (s w lim n : Nat) : Prop := ∀ v, v < n → P v = true → fb_ct P v < lim → ∀ e, e < w → o (s + w * fb_ct P v + e) = lN (F e v)
theorem rLs_0 {o : Nat → Int64} {P : Nat → Bool} {F : Nat → Nat → Nat} {s w lim : Nat} : rLs o P F s w lim 0 := fun v h => absurd h (Nat.not_lt_zero v)
theorem rLs_no {o : Nat → Int64} {P : Nat → Bool} {F : Nat → Nat → Nat} {s w lim v : Nat} (h : rLs o P F s w lim v) (hp : P v = false) : rLs o P F s w lim (v + 1) := by
  intro u hu hpu
  by_cases c : u = v
  · rw [c, hp] at hpu; cases hpu
  · exact h u (by omega) hpu
theorem rLs_full {o : Nat → Int64} {P : Nat → Bool} {F : Nat → Nat → Nat} {s w lim v t : Nat} (h : rLs o P F s w lim v) (ht : t = fb_ct P v) (hl : lim ≤ t) : rLs o P F s w lim (v + 1) := by
  intro u hu hpu hlt
  by_cases c : u = v
  · rw [c] at hlt; omega
  · exact h u (by omega) hpu hlt
theorem rLs_go {o g : Nat → Int64} {P : Nat → Bool} {F : Nat → Nat → Nat} {s w lim v : Nat} (h : rLs o P F s w lim v) (hlo : ∀ j, j < s + w * fb_ct P v → g j = o j) (hnew : ∀ e, e < w → g (s + w * fb_ct P v + e) = lN (F e v)) : rLs g P F s w lim (v + 1) := by
  intro u hu hpu hlt e he
  by_cases c : u = v
  · rw [c]; exact hnew e he
  · have h1 := ct_lt (p := P) (show u < v by omega) hpu
    have h2 : w * (fb_ct P u + 1) ≤ w * fb_ct P v := Nat.mul_le_mul_left w h1
    rw [Nat.mul_succ] at h2
    rw [hlo _ (by omega)]; exact h u (by omega) hpu hlt e he
theorem rLs_1 {o g : Nat → Int64} {P : Nat → Bool} {F : Nat → Nat → Nat} {s lim v t k0 : Nat} {x0 : Int64} (h : rLs o P F s 1 lim v) (e0 : g = vp_updL o k0 x0) (ht : t = fb_ct P v) (hk0 : k0 = s + t) (hx0 : x0 = lN (F 0 v)) : rLs g P F s 1 lim (v + 1) :=
  rLs_go h (fun j hj => rq_uo e0 (by omega)) (fun e he => by
    rw [show e = 0 by omega, rq_ua e0 (by omega), hx0])
theorem rLs_2 {o g1 g : Nat → Int64} {P : Nat → Bool} {F : Nat → Nat → Nat} {s lim v t k0 k1 : Nat} {x0 x1 : Int64} (h : rLs o P F s 2 lim v) (e0 : g1 = vp_updL o k0 x0) (e1 : g = vp_updL g1 k1 x1) (ht : t = fb_ct P v) (hk0 : k0 = s + 2 * t) (hk1 : k1 = s + 2 * t + 1) (hx0 : x0 = lN (F 0 v)) (hx1 : x1 = lN (F 1 v)) : rLs g P F s 2 lim (v + 1) :=
  rLs_go h (fun j hj => (rq_uo e1 (by omega)).trans (rq_uo e0 (by omega))) (fun e he => by
    rcases (show e = 0 ∨ e = 1 by omega) with q | q
    · rw [q, rq_uo e1 (by omega), rq_ua e0 (by omega), hx0]
    · rw [q, rq_ua e1 (by omega), hx1])
theorem rLs_3 {o g1 g2 g : Nat → Int64} {P : Nat → Bool} {F : Nat → Nat → Nat} {s lim v t k0 k1 k2 : Nat} {x0 x1 x2 : Int64} (h : rLs o P F s 3 lim v) (e0 : g1 = vp_updL o k0 x0) (e1 : g2 = vp_updL g1 k1 x1) (e2 : g = vp_updL g2 k2 x2) (ht : t = fb_ct P v) (hk0 : k0 = s + 3 * t) (hk1 : k1 = s + 3 * t + 1) (hk2 : k2 = s + 3 * t + 2) (hx0 : x0 = lN (F 0 v)) (hx1 : x1 = lN (F 1 v)) (hx2 : x2 = lN (F 2 v)) : rLs g P F s 3 lim (v + 1) :=
  rLs_go h (fun j hj => (rq_uo e2 (by omega)).trans ((rq_uo e1 (by omega)).trans (rq_uo e0 (by omega)))) (fun e he => by
    rcases (show e = 0 ∨ e = 1 ∨ e = 2 by omega) with q | q | q
    · rw [q, rq_uo e2 (by omega), rq_uo e1 (by omega), rq_ua e0 (by omega), hx0]
    · rw [q, rq_uo e2 (by omega), rq_ua e1 (by omega), hx1]
    · rw [q, rq_ua e2 (by omega), hx2])
theorem rLs_eq {o m : Nat → Int64} {P Q : Nat → Bool} {F G : Nat → Nat → Nat} {s w lim n N : Nat} (h : rLs o P F s w lim n) (g : rLs m Q G s w lim n) (hP : P = Q) (hF : F = G) (h0 : ∀ j, j < s → o j = m j) (hN : N = s + w * min (fb_ct P n) lim) : ∀ j, j < N → o j = m j := by
  subst hP hF
  intro j hj
  by_cases c : j < s
  · exact h0 j c
  · rcases Nat.eq_zero_or_pos w with hw | hw
    · rw [hw, Nat.zero_mul] at hN; omega
    · obtain ⟨q, hq⟩ : ∃ q, q = (j - s) / w := ⟨_, rfl⟩
      obtain ⟨e, he⟩ : ∃ e, e = (j - s) % w := ⟨_, rfl⟩
      have hd := Nat.div_add_mod (j - s) w
      have hl := Nat.mod_lt (j - s) hw
      rw [← hq, ← he] at hd
      rw [← he] at hl
      have hql : q < min (fb_ct P n) lim := Nat.lt_of_mul_lt_mul_left (a := w) (by omega)
      obtain ⟨v, v1, v2, v3⟩ := fb_ct_kth (p := P) (n := n) (k := q) (by omega)
      have a := h v v1 v2 (by omega) e hl
      have b := g v v1 v2 (by omega) e hl
      rw [v3] at a b
      rw [show j = s + w * q + e by omega, a, b]
/-- what a list tells of each -/
def rF1 : Nat → Nat → Nat := fun _ v => v
def rF2 (c : Nat → Nat) : Nat → Nat → Nat := fun e v => if e = 0 then v else c v
def rF3 (c d : Nat → Nat) : Nat → Nat → Nat := fun e v => if e = 0 then v else if e = 1 then c v else d v
/-- places of a number in a span -/
def rMk (f : Nat → Int32) (v a : Nat) : Nat → Bool := fun p => decide (a ≤ p ∧ f p = nI v)
theorem rMk_ct {f : Nat → Int32} {v a : Nat} : ∀ k, fb_ct (rMk f v a) k = cn f v a k
  | 0 => rfl
  | k + 1 => by
    rw [fb_ct_succ, rMk_ct k]
    show _ = cn f v a k + (if a ≤ k ∧ f k = nI v then 1 else 0)
    unfold rMk
    by_cases c : a ≤ k ∧ f k = nI v
    · rw [if_pos c, if_pos (decide_eq_true c)]
    · rw [if_neg c, decide_eq_false c]; rfl
theorem rMk_0 {o : Nat → Int64} {f : Nat → Int32} {v a : Nat} {F : Nat → Nat → Nat} {s w lim : Nat} : rLs o (rMk f v a) F s w lim a := fun p hp hq => absurd (of_decide_eq_true hq).1 (by omega)
theorem rMk_t {f : Nat → Int32} {v a k : Nat} (h : a ≤ k) (hv : v < 256) (d : (f k).toInt = ((v : Nat) : Int)) : rMk f v a k = true := decide_eq_true ⟨h, my_eqI (a := (v : Int)) d (nI_toInt (by omega))⟩
theorem rMk_f {f : Nat → Int32} {v a k : Nat} (hv : v < 256) (d : (f k).toInt ≠ ((v : Nat) : Int)) : rMk f v a k = false := decide_eq_false (fun q => d (by rw [q.2]; exact nI_toInt (by omega)))
theorem rMk_cong {o : Nat → Int64} {f g : Nat → Int32} {v a b : Nat} {F : Nat → Nat → Nat} {s w lim : Nat} (h : ∀ j, j < b → f j = g j) (H : rLs o (rMk f v a) F s w lim b) : rLs o (rMk g v a) F s w lim b := by
  have e : ∀ p, p < b → rMk f v a p = rMk g v a p := fun p hp => by unfold rMk; rw [h p hp]
  intro p hp hq hl
  have e2 : fb_ct (rMk g v a) p = fb_ct (rMk f v a) p := fb_ct_cong (fun i hi => (e i (by omega)).symm)
  rw [e2] at hl ⊢
  exact H p hp (by rw [e p hp]; exact hq) hl
/-- bits of a level -/
theorem lbit_ext {x y : Int64} (h : ∀ i, i < 64 → lbit x i = lbit y i) : x = y := Int64.toBitVec_inj.mp (BitVec.eq_of_getLsbD_eq (fun i hi => h i hi))
theorem lq_0 {B : Nat → Bool} : ∀ i, i < 64 → lbit (0 : Int64) i = (decide (i < 0) && B i) := fun i hi => by
  rw [decide_eq_false (Nat.not_lt_zero i), Bool.false_and]
  exact (by decide +kernel : ∀ i, i < 64 → lbit (0 : Int64) i = false) i hi
theorem lq_s {B : Nat → Bool} {x y z : Int64} {k w : Nat} (H : ∀ i, i < 64 → lbit x i = (decide (i < k) && B i)) (ey : y = x ||| z) (ez : z = lN w <<< ((nI k).toInt64 &&& 63)) (hw : w = bN (B k)) (hk : k < 64) : ∀ i, i < 64 → lbit y i = (decide (i < k + 1) && B i) := by
  intro i hi
  have hw2 := bN_le (B k)
  rw [ey, lbit_or, H i hi, ez, lbit_shl (by omega) hk]
  by_cases c : i = k
  · rw [c, decide_eq_false (Nat.lt_irrefl k), decide_eq_true (show k < k + 1 by omega), hw]
    cases B k <;> simp [bN]
  · rw [decide_eq_false c, Bool.and_false, Bool.or_false]
    by_cases d : i < k
    · rw [decide_eq_true d, decide_eq_true (show i < k + 1 by omega)]
    · rw [decide_eq_false d, decide_eq_false (show ¬ i < k + 1 by omega)]
theorem lv_row0 {lb : Nat → Int64} {f g : Nat → Int32} {n j : Nat} {x y : Int64} (hl : LVL lb f n) (hj : j < 8) (h : ∀ i, i < n → f i = g i) (kc : x = lb j) (kr : ∀ i, i < 64 → lbit y i = (decide (i < n) && lvB g n j i)) : x = y := by
  rw [kc]
  refine lbit_ext (fun i hi => ?_)
  rw [hl j hj i hi, kr i hi]
  by_cases c : i < n
  · rw [lvB_cong h c]
  · rw [decide_eq_false c, Bool.false_and, Bool.false_and]
theorem lv_row1 {lb : Nat → Int64} {f g : Nat → Int32} {n j : Nat} (hl : LVL lb f n) (hj : j < 8) (hn : n ≤ 64) (h : ∀ i, i < n → f i = g i) : rnF (lbit (lb j)) n = rnF (lvB g n j) n := rn_cong (fun i hi => by rw [hl.bit hj hi hn, lvB_cong h hi])
/-- the first place of a number -/
def fpP (f : Nat → Int32) (v a p : Nat) : Prop := a ≤ p ∧ f p = nI v ∧ ∀ q, a ≤ q → q < p → f q ≠ nI v
theorem fp_0 {f : Nat → Int32} {v a : Nat} : ∀ q, a ≤ q → q < a → f q ≠ nI v := fun q h1 h2 => absurd h1 (by omega)
theorem fp_s {f : Nat → Int32} {v a k : Nat} (H : ∀ q, a ≤ q → q < k → f q ≠ nI v) (d : (f k).toInt ≠ ((v : Nat) : Int)) (hv : v < 256) : ∀ q, a ≤ q → q < k + 1 → f q ≠ nI v := by
  intro q h1 h2
  by_cases c : q = k
  · rw [c]; exact fun h => d (by rw [h]; exact nI_toInt (by omega))
  · exact H q h1 (by omega)
theorem fp_mk {f : Nat → Int32} {v a k : Nat} (h : a ≤ k) (hv : v < 256) (d : (f k).toInt = ((v : Nat) : Int)) (H : ∀ q, a ≤ q → q < k → f q ≠ nI v) : fpP f v a k := ⟨h, my_eqI (a := (v : Int)) d (nI_toInt (by omega)), H⟩
theorem kth_ex {g : Nat → Int32} {c : Nat → Nat} {k w : Nat} (H : SRV g c 256) (hk : k < fb_sm c 256) (e : g k = nI w) (hw : w < 256) : 0 < c w := by
  obtain ⟨v, h1, h2, h3⟩ := slot_ex 256 hk
  have e2 := H v h1 k h2 h3
  rw [e] at e2
  have e3 : w = v := (nI_eq (by omega) (by omega)).mp e2
  rw [fb_sm_succ] at h3
  rw [e3]; omega
theorem fp_one {f g : Nat → Int32} {v a b n p q : Nat} (h : ∀ j, j < n → f j = g j) (hb : b ≤ n) (hc : 0 < cn f v a b) (h1 : fpP f v a p) (h2 : fpP g v a q) : p = q := by
  obtain ⟨p0, a1, a2, a3⟩ := cn_pos hc
  have hp : p ≤ p0 := Nat.le_of_not_lt (fun c => h1.2.2 p0 a1 c a3)
  have hq : q ≤ p0 := Nat.le_of_not_lt (fun c => h2.2.2 p0 a1 c (by rw [← h p0 (by omega)]; exact a3))
  rcases Nat.lt_trichotomy p q with c | c | c
  · exact absurd (by rw [← h p (by omega)]; exact h1.2.1) (h2.2.2 p h1.1 c)
  · exact c
  · exact absurd (by rw [h q (by omega)]; exact h2.2.1) (h1.2.2 q h2.1 c)
theorem kth_row {o m : Nat → Int64} {f g : Nat → Int32} {a b k n N : Nat} {r s : Int32} (h : ∀ j, j < n → f j = g j) (hf : RB 0 255 f) (hab : a ≤ b) (hb : b ≤ n) (hk : k < b - a) (h1 : kthP f a b k r) (h2 : kthP g a b k s) (v1 : o 0 = lN (cn f r.toInt.toNat a b)) (v2 : m 0 = lN (cn g s.toInt.toNat a b)) (w1 : ∃ p, fpP f r.toInt.toNat a p ∧ o 1 = lN p) (w2 : ∃ p, fpP g s.toInt.toNat a p ∧ m 1 = lN p) (hN : N = 2) : ∀ j, j < N → o j = m j := by
  have e := kth_one h hf hab hb hk h1 h2
  subst e
  obtain ⟨x, x1, x2⟩ := h1
  have hs := cnF_sum hf hab
  have hr := sr_rng x1 (k := k) (by omega)
  have hc : 0 < cn f r.toInt.toNat a b := kth_ex (w := r.toInt.toNat) (k := k) x1 (by omega) (by rw [← x2]; exact nI_tn (by rw [x2]; exact hr.1)) (by rw [x2]; omega)
  obtain ⟨p, p1, p2⟩ := w1
  obtain ⟨q, q1, q2⟩ := w2
  refine rq_2 hN (rq_eq v1 v2 (cn_cong (fun j hj => h j (by omega)))) (rq_eq p2 q2 (fp_one h hb hc p1 q1))
/-- what stands by an answer that has one value -/
theorem bl_row {o m : Nat → Int64} {c d : Nat → Nat} {v : Int} {r s : Int32} {N : Nat} (hcd : c = d) (h : blP c v r) (g : blP d v s) (v1 : o 0 = lN (c r.toInt.toNat)) (v2 : m 0 = lN (d s.toInt.toNat)) (hN : N = 1) : ∀ j, j < N → o j = m j := by
  subst hcd
  have e := bl_one h g
  exact rq_1 hN (by rw [v1, v2, e])
theorem ab_row {o m : Nat → Int64} {c d : Nat → Nat} {v : Int} {r s : Int32} {N : Nat} (hcd : c = d) (h : abP c v r) (g : abP d v s) (v1 : o 0 = lN (c r.toInt.toNat)) (v2 : m 0 = lN (d s.toInt.toNat)) (hN : N = 1) : ∀ j, j < N → o j = m j := by
  subst hcd
  have e := ab_one h g
  exact rq_1 hN (by rw [v1, v2, e])
theorem md_row {o m : Nat → Int64} {c d : Nat → Nat} {a b N : Nat} (hcd : c = d) (ha : a < 256) (hb : b < 256) (h : mdP c a 256) (g : mdP d b 256) (v1 : o 0 = lN (c a)) (v2 : m 0 = lN (d b)) (hN : N = 1) : ∀ j, j < N → o j = m j := by
  subst hcd
  have e := md_one ha hb h g
  exact rq_1 hN (by rw [v1, v2, e])
theorem fx_eq {w u x : Nat} (h : w = u) : lN (w ^^^ x) = lN (u ^^^ x) := by rw [h]
theorem fx_c {c : Nat → Nat} {w u x : Nat} (h : w = u) : c (w ^^^ x) = axF c x u := by rw [h]; rfl
theorem far_row {o m : Nat → Int64} {c d : Nat → Nat} {x N : Nat} {v : Int} {r s : Int32} (hcd : c = d) (h : blP (axF c x) v r) (g : blP (axF d x) v s) (v1 : o 0 = lN (r.toInt.toNat ^^^ x)) (v2 : m 0 = lN (s.toInt.toNat ^^^ x)) (w1 : o 1 = lN (axF c x r.toInt.toNat)) (w2 : m 1 = lN (axF d x s.toInt.toNat)) (hN : N = 2) : ∀ j, j < N → o j = m j := by
  subst hcd
  have e := bl_one h g
  exact rq_2 hN (by rw [v1, v2, e]) (by rw [w1, w2, e])
/-- sums of the least, of the greatest -/
def smV (f : Nat → Int32) (a b k : Nat) (x : Int64) : Prop := ∃ g, SRV g (cnF f a b) 256 ∧ x.toInt = ((fb_sm (fun i => (g i).toInt.toNat) k : Nat) : Int)
def smG (f : Nat → Int32) (a b k : Nat) (x : Int64) : Prop := ∃ g, SRV g (cnF f a b) 256 ∧ x.toInt = ((fb_sm (fun i => (g (b - a - 1 - i)).toInt.toNat) k : Nat) : Int)
theorem smG_one {f g : Nat → Int32} {a b k n : Nat} {r s : Int64} (h : ∀ j, j < n → f j = g j) (hf : RB 0 255 f) (hab : a ≤ b) (hb : b ≤ n) (hk : k ≤ b - a) (h1 : smG f a b k r) (h2 : smG g a b k s) : r = s := by
  obtain ⟨x, x1, x2⟩ := h1
  obtain ⟨y, y1, y2⟩ := h2
  rw [← cnF_tie h hb] at y1
  have e : fb_sm (fun i => (x (b - a - 1 - i)).toInt.toNat) k = fb_sm (fun i => (y (b - a - 1 - i)).toInt.toNat) k := fb_sm_cong (fun i hi => by
    show (x (b - a - 1 - i)).toInt.toNat = (y (b - a - 1 - i)).toInt.toNat
    rw [sr_eq x1 y1 (by rw [cnF_sum hf hab]; omega)])
  exact rq_eqI x2 y2 (by rw [e])
theorem smV_one {f g : Nat → Int32} {a b k n : Nat} {r s : Int64} (h : ∀ j, j < n → f j = g j) (hf : RB 0 255 f) (hab : a ≤ b) (hb : b ≤ n) (hk : k ≤ b - a) (h1 : smV f a b k r) (h2 : smV g a b k s) : r = s := by
  obtain ⟨x, x1, x2⟩ := h1
  obtain ⟨y, y1, y2⟩ := h2
  rw [← cnF_tie h hb] at y1
  have e : fb_sm (fun i => (x i).toInt.toNat) k = fb_sm (fun i => (y i).toInt.toNat) k := fb_sm_cong (fun i hi => by
    show (x i).toInt.toNat = (y i).toInt.toNat
    rw [sr_eq x1 y1 (by rw [cnF_sum hf hab]; omega)])
  exact rq_eqI x2 y2 (by rw [e])
theorem smg_step {g : Nat → Int32} {n k : Nat} {x y : Int32} (h : x.toInt = ((fb_sm (fun i => (g (n - i)).toInt.toNat) k : Nat) : Int)) (h0 : 0 ≤ (g (n - k)).toInt) (t : y.toInt = x.toInt + (g (n - k)).toInt) : y.toInt = ((fb_sm (fun i => (g (n - i)).toInt.toNat) (k + 1) : Nat) : Int) := by
  rw [fb_sm_succ, t, h]; omega
theorem smg_bd {g : Nat → Int32} {c : Nat → Nat} {n : Nat} (H : SRV g c 256) (hn : n = 0 ∨ n ≤ fb_sm c 256) : ∀ k, k ≤ n → fb_sm (fun i => (g (n - 1 - i)).toInt.toNat) k ≤ 255 * k
  | 0, _ => Nat.le_refl 0
  | k + 1, h => by
    have ih := smg_bd H hn k (by omega)
    have hr := sr_rng H (k := n - 1 - k) (by omega)
    rw [fb_sm_succ]; omega
theorem ft_row {o m : Nat → Int64} {f g : Nat → Int32} {a b n k z N : Nat} {s : Int} (h : ∀ j, j < z → f j = g j) (hf : RB 0 255 f) (hab : a ≤ b) (hb : b ≤ z) (h1 : ftP f a b s n) (h2 : ftP g a b s k) (v1 : smV f a b n (o 0)) (v2 : smV g a b k (m 0)) (hN : N = 1) : ∀ j, j < N → o j = m j := by
  have hn : n ≤ b - a := by obtain ⟨x, x1, x2, -⟩ := h1; exact x2
  have e := ft_one h hf hab hb h1 h2
  subst e
  exact rq_1 hN (smV_one h hf hab hb hn v1 v2)
theorem ob_le {n : Nat} (F : Nat → Nat → Bool) (hn : n ≤ 64) : fb_sm (fun j => fb_ct (F j) n) 8 ≤ 512 := Nat.le_trans (fb_sm_bound (c := 64) (fun k _ => Nat.le_trans (fb_ct_le _ _) hn)) (by decide)
/-- like pairs -/
def tkI (f : Nat → Int32) (i j0 : Nat) : Nat → Nat
  | 0 => 0
  | j + 1 => tkI f i j0 j + (if j0 ≤ j ∧ (f j).toInt = (f i).toInt then 1 else 0)
theorem tkI_0 {f : Nat → Int32} {i j0 : Nat} : ∀ {j : Nat}, j ≤ j0 → tkI f i j0 j = 0
  | 0, _ => rfl
  | j + 1, h => by
    show tkI f i j0 j + (if j0 ≤ j ∧ (f j).toInt = (f i).toInt then 1 else 0) = 0
    rw [tkI_0 (by omega), if_neg (by omega)]
theorem tkI_y {f : Nat → Int32} {i j0 j t u : Nat} (h : t = u + tkI f i j0 j) (h1 : j0 ≤ j) (d : (f j).toInt = (f i).toInt) : t + 1 = u + tkI f i j0 (j + 1) := by
  show _ = u + (tkI f i j0 j + (if j0 ≤ j ∧ (f j).toInt = (f i).toInt then 1 else 0))
  rw [if_pos ⟨h1, d⟩, h]; omega
theorem tkI_n {f : Nat → Int32} {i j0 j t u : Nat} (h : t = u + tkI f i j0 j) (d : (f j).toInt ≠ (f i).toInt) : t = u + tkI f i j0 (j + 1) := by
  show _ = u + (tkI f i j0 j + (if j0 ≤ j ∧ (f j).toInt = (f i).toInt then 1 else 0))
  rw [if_neg (fun q => d q.2), h]; omega
theorem tkI_cong {f g : Nat → Int32} {i j0 : Nat} (hi : f i = g i) : ∀ {j : Nat}, (∀ q, q < j → f q = g q) → tkI f i j0 j = tkI g i j0 j
  | 0, _ => rfl
  | j + 1, h => by
    show tkI f i j0 j + (if j0 ≤ j ∧ (f j).toInt = (f i).toInt then 1 else 0) = tkI g i j0 j + (if j0 ≤ j ∧ (g j).toInt = (g i).toInt then 1 else 0)
    rw [tkI_cong hi (fun q hq => h q (by omega)), hi, h j (by omega)]
def tkO (f : Nat → Int32) (a b : Nat) : Nat → Nat
  | 0 => 0
  | k + 1 => tkO f a b k + (if a ≤ k then tkI f k (k + 1) b else 0)
theorem tkO_0 {f : Nat → Int32} {a b : Nat} : ∀ {k : Nat}, k ≤ a → tkO f a b k = 0
  | 0, _ => rfl
  | k + 1, h => by
    show tkO f a b k + (if a ≤ k then tkI f k (k + 1) b else 0) = 0
    rw [tkO_0 (by omega), if_neg (by omega)]
theorem tkO_s {f : Nat → Int32} {a b k t : Nat} (h : t = tkO f a b k + tkI f k (k + 1) b) (hk : a ≤ k) : t = tkO f a b (k + 1) := by
  show t = tkO f a b k + (if a ≤ k then tkI f k (k + 1) b else 0)
  rw [if_pos hk, h]
theorem tkO_cong {f g : Nat → Int32} {a b n : Nat} (h : ∀ j, j < n → f j = g j) (hb : b ≤ n) : ∀ {k : Nat}, k ≤ b → tkO f a b k = tkO g a b k
  | 0, _ => rfl
  | k + 1, hk => by
    show tkO f a b k + (if a ≤ k then tkI f k (k + 1) b else 0) = tkO g a b k + (if a ≤ k then tkI g k (k + 1) b else 0)
    rw [tkO_cong h hb (by omega), tkI_cong (h k (by omega)) (fun q hq => h q (by omega))]
/-- the least and the greatest of those that stand once -/
def loP (c : Nat → Nat) (x y : Int) (v : Nat) : Prop := (x = -1 ∧ y = -1 ∧ ∀ u, u < v → c u ≠ 1) ∨ ∃ a b : Nat, a < v ∧ b < v ∧ c a = 1 ∧ c b = 1 ∧ (∀ u, u < a → c u ≠ 1) ∧ (∀ u, b < u → u < v → c u ≠ 1) ∧ x = (a : Int) ∧ y = (b : Int)
theorem lo_0 {c : Nat → Nat} {x y : Int} (hx : x = -1) (hy : y = -1) : loP c x y 0 := Or.inl ⟨hx, hy, fun u h => absurd h (Nat.not_lt_zero u)⟩
theorem lo_no {c : Nat → Nat} {x y : Int} {v : Nat} (h : loP c x y v) (q : c v ≠ 1) : loP c x y (v + 1) := by
  rcases h with ⟨h1, h2, h3⟩ | ⟨a, b, h1, h2, h3, h4, h5, h6, h7, h8⟩
  · exact Or.inl ⟨h1, h2, fun u hu => by
      by_cases e : u = v
      · rw [e]; exact q
      · exact h3 u (by omega)⟩
  · exact Or.inr ⟨a, b, by omega, by omega, h3, h4, h5, fun u hu hv => by
      by_cases e : u = v
      · rw [e]; exact q
      · exact h6 u hu (by omega), h7, h8⟩
theorem lo_first {c : Nat → Nat} {x y x' y' : Int} {v : Nat} (h : loP c x y v) (hx : x < 0) (q : c v = 1) (ex : x' = (v : Int)) (ey : y' = (v : Int)) : loP c x' y' (v + 1) := by
  rcases h with ⟨h1, h2, h3⟩ | ⟨a, b, h1, h2, h3, h4, h5, h6, h7, h8⟩
  · exact Or.inr ⟨v, v, by omega, by omega, q, q, h3, fun u hu hv => by omega, ex, ey⟩
  · omega
theorem lo_more {c : Nat → Nat} {x y x' y' : Int} {v : Nat} (h : loP c x y v) (hx : 0 ≤ x) (q : c v = 1) (ex : x' = x) (ey : y' = (v : Int)) : loP c x' y' (v + 1) := by
  rcases h with ⟨h1, h2, h3⟩ | ⟨a, b, h1, h2, h3, h4, h5, h6, h7, h8⟩
  · omega
  · exact Or.inr ⟨a, v, by omega, by omega, h3, q, h5, fun u hu hv => by omega, by rw [ex, h7], ey⟩
theorem lo_ct {c : Nat → Nat} {x y : Int} {v t : Nat} (h : loP c x y v) (ht : t = fb_ct (lnP c) v) : (t = 0 → x < 0) ∧ (t ≠ 0 → 0 ≤ x) := by
  rcases h with ⟨h1, h2, h3⟩ | ⟨a, b, h1, h2, h3, h4, h5, h6, h7, h8⟩
  · have z : fb_ct (lnP c) v = 0 := fb_ct_zero.mpr (fun u hu => decide_eq_false (h3 u hu))
    exact ⟨fun _ => by omega, fun q => absurd (ht.trans z) q⟩
  · refine ⟨fun q => ?_, fun _ => by omega⟩
    have z := fb_ct_zero.mp (show fb_ct (lnP c) v = 0 by omega) a h1
    unfold lnP at z
    rw [decide_eq_true h3] at z; cases z
theorem lo_one {c : Nat → Nat} {x y x' y' : Int} (h : loP c x y 256) (g : loP c x' y' 256) : x = x' ∧ y = y' := by
  rcases h with ⟨h1, h2, h3⟩ | ⟨a, b, h1, h2, h3, h4, h5, h6, h7, h8⟩ <;> rcases g with ⟨g1, g2, g3⟩ | ⟨u, w, g1, g2, g3, g4, g5, g6, g7, g8⟩
  · exact ⟨by omega, by omega⟩
  · exact absurd g3 (h3 u g1)
  · exact absurd h3 (g3 a h1)
  · have e1 : a = u := by
      rcases Nat.lt_trichotomy a u with q | q | q
      · exact absurd h3 (g5 a q)
      · exact q
      · exact absurd g3 (h5 u q)
    have e2 : b = w := by
      rcases Nat.lt_trichotomy b w with q | q | q
      · exact absurd g4 (h6 w q g2)
      · exact q
      · exact absurd h4 (g6 b q h2)
    exact ⟨by omega, by omega⟩
theorem lo_ge {c : Nat → Nat} {x y : Int} {v : Nat} (h : loP c x y v) : -1 ≤ x := by
  rcases h with ⟨h1, h2, h3⟩ | ⟨a, b, h1, h2, h3, h4, h5, h6, h7, h8⟩ <;> omega
/-- two spans: the first number that they have unlike, and how many are alone -/
def slP (c e : Nat → Nat) (x : Int) (v : Nat) : Prop := (x = -1 ∧ ∀ u, u < v → c u = e u) ∨ ∃ u : Nat, u < v ∧ x = (u : Int) ∧ c u ≠ e u ∧ ∀ w, w < u → c w = e w
theorem sl_0 {c e : Nat → Nat} {x : Int} (h : x = -1) : slP c e x 0 := Or.inl ⟨h, fun u hu => absurd hu (Nat.not_lt_zero u)⟩
theorem sl_eq {c e : Nat → Nat} {x : Int} {v : Nat} (h : slP c e x v) (q : c v = e v) : slP c e x (v + 1) := by
  rcases h with ⟨h1, h2⟩ | ⟨u, h1, h2, h3, h4⟩
  · exact Or.inl ⟨h1, fun u hu => by
      by_cases d : u = v
      · rw [d]; exact q
      · exact h2 u (by omega)⟩
  · exact Or.inr ⟨u, by omega, h2, h3, h4⟩
theorem sl_new {c e : Nat → Nat} {x y : Int} {v : Nat} (h : slP c e x v) (q : c v ≠ e v) (hx : x = -1) (hy : y = (v : Int)) : slP c e y (v + 1) := by
  rcases h with ⟨h1, h2⟩ | ⟨u, h1, h2, h3, h4⟩
  · exact Or.inr ⟨v, by omega, hy, q, h2⟩
  · omega
theorem sl_old {c e : Nat → Nat} {x : Int} {v : Nat} (h : slP c e x v) (hx : x ≠ -1) : slP c e x (v + 1) := by
  rcases h with ⟨h1, h2⟩ | ⟨u, h1, h2, h3, h4⟩
  · omega
  · exact Or.inr ⟨u, by omega, h2, h3, h4⟩
theorem sl_one {c e : Nat → Nat} {x y : Int} (h : slP c e x 256) (g : slP c e y 256) : x = y := by
  rcases h with ⟨h1, h2⟩ | ⟨u, h1, h2, h3, h4⟩ <;> rcases g with ⟨g1, g2⟩ | ⟨w, g1, g2, g3, g4⟩
  · omega
  · exact absurd (h2 w g1) g3
  · exact absurd (g2 u h1) h3
  · rcases Nat.lt_trichotomy u w with q | q | q
    · exact absurd (g4 u q) h3
    · omega
    · exact absurd (h4 w q) g3
/-- from above -/
def sdP (c e : Nat → Nat) (y x : Int) : Prop := (y = -1 ∧ ∀ u : Nat, x < (u : Int) → u < 256 → c u = e u) ∨ ∃ u : Nat, u < 256 ∧ x < (u : Int) ∧ y = (u : Int) ∧ c u ≠ e u ∧ ∀ w : Nat, x < (w : Int) → w < u → c w = e w
theorem sdP_0 {c e : Nat → Nat} {x y : Int} (h : y = -1) (hx : x = 255) : sdP c e y x := Or.inl ⟨h, fun u h1 h2 => by omega⟩
theorem sdP_eq {c e : Nat → Nat} {x y z : Int} {w u t s : Nat} (h : sdP c e y x) (h1 : t = c w) (h2 : s = e u) (ew : (w : Int) = x) (eu : (u : Int) = x) (q : t = s) (hz : z = x - 1) : sdP c e y z := by
  obtain rfl : u = w := by omega
  have q2 : c u = e u := by rw [← h1, ← h2]; exact q
  rcases h with ⟨a1, a2⟩ | ⟨v, a1, a2, a3, a4, a5⟩
  · exact Or.inl ⟨a1, fun r r1 r2 => by
      by_cases d : x < (r : Int)
      · exact a2 r d r2
      · rw [show r = u by omega]; exact q2⟩
  · exact Or.inr ⟨v, a1, by omega, a3, a4, fun r r1 r2 => by
      by_cases d : x < (r : Int)
      · exact a5 r d r2
      · rw [show r = u by omega]; exact q2⟩
theorem sdP_new {c e : Nat → Nat} {x y z : Int} {w u t s : Nat} (h1 : t = c w) (h2 : s = e u) (ew : (w : Int) = x) (eu : (u : Int) = x) (hw : w < 256) (q : t ≠ s) (hy : y = x) (hz : z = x - 1) : sdP c e y z := by
  obtain rfl : u = w := by omega
  exact Or.inr ⟨u, hw, by omega, by omega, by rw [← h1, ← h2]; exact q, fun r r1 r2 => by omega⟩
theorem sdP_sl {c e : Nat → Nat} {x y : Int} (h : sdP c e y x) (hx : x = -1) : slP c e y 256 := by
  rcases h with ⟨a1, a2⟩ | ⟨v, a1, a2, a3, a4, a5⟩
  · exact Or.inl ⟨a1, fun u hu => a2 u (by omega) hu⟩
  · exact Or.inr ⟨v, a1, a3, a4, fun r r1 => a5 r (by omega) r1⟩
def alF (c e : Nat → Nat) : Nat → Nat := fun u => c u - e u
theorem al_up {c e : Nat → Nat} {v : Nat} {x y : Int} (h : x = ((fb_sm (alF c e) v : Nat) : Int)) (hy : (y = x ∧ c v ≤ e v) ∨ (y = x + ((c v : Int) - (e v : Int)) ∧ e v ≤ c v)) : y = ((fb_sm (alF c e) (v + 1) : Nat) : Int) := by
  rw [fb_sm_succ]
  show y = ((fb_sm (alF c e) v + (c v - e v) : Nat) : Int)
  omega
theorem al_bd {c e : Nat → Nat} (h : ∀ v, c v ≤ 64) : ∀ n, fb_sm (alF c e) n ≤ 64 * n
  | 0 => Nat.le_refl 0
  | n + 1 => by
    have ih := al_bd (e := e) h n
    have hn := h n
    rw [fb_sm_succ]
    show fb_sm (alF c e) n + (c n - e n) ≤ 64 * (n + 1)
    omega
theorem al_st {c e : Nat → Nat} {x y : Int} (hy : y = 0) (hx : x = 255) : y + ((fb_sm (alF c e) (x + 1).toNat : Nat) : Int) = ((fb_sm (alF c e) 256 : Nat) : Int) := by
  rw [hy, hx, show (255 + 1 : Int).toNat = 256 from rfl, Int.zero_add]
theorem al_dn {c e : Nat → Nat} {w u t s : Nat} {x x' y y' : Int} (h : y + ((fb_sm (alF c e) (x + 1).toNat : Nat) : Int) = ((fb_sm (alF c e) 256 : Nat) : Int)) (h1 : t = c w) (h2 : s = e u) (ew : (w : Int) = x) (eu : (u : Int) = x) (hx : x' = x - 1) (hy : (y' = y ∧ t ≤ s) ∨ (y' = y + ((t : Int) - (s : Int)) ∧ s ≤ t)) : y' + ((fb_sm (alF c e) (x' + 1).toNat : Nat) : Int) = ((fb_sm (alF c e) 256 : Nat) : Int) := by
  obtain rfl : u = w := by omega
  rw [show (x + 1).toNat = u + 1 by omega, fb_sm_succ] at h
  rw [show (x' + 1).toNat = u by omega]
  have h3 : ((fb_sm (alF c e) u + alF c e u : Nat) : Int) = (fb_sm (alF c e) u : Int) + ((c u - e u : Nat) : Int) := by push_cast; rfl
  rw [h3] at h
  omega
theorem al_end {c e : Nat → Nat} {x y : Int} (h : y + ((fb_sm (alF c e) (x + 1).toNat : Nat) : Int) = ((fb_sm (alF c e) 256 : Nat) : Int)) (hx : x = -1) : y = ((fb_sm (alF c e) 256 : Nat) : Int) := by
  rw [hx, show (-1 + 1 : Int).toNat = 0 from rfl] at h
  have : fb_sm (alF c e) 0 = 0 := rfl
  omega
theorem same_row {o m : Nat → Int64} {c e c' e' : Nat → Nat} {N : Nat} (hc : c = c') (he : e = e') (h : slP c e (o 0).toInt 256) (g : slP c' e' (m 0).toInt 256) (h1 : (o 1).toInt = ((fb_sm (alF c e) 256 : Nat) : Int)) (g1 : (m 1).toInt = ((fb_sm (alF c' e') 256 : Nat) : Int)) (h2 : (o 2).toInt = ((fb_sm (alF e c) 256 : Nat) : Int)) (g2 : (m 2).toInt = ((fb_sm (alF e' c') 256 : Nat) : Int)) (hN : N = 3) : ∀ j, j < N → o j = m j := by
  subst hc he
  exact rq_3 hN (Int64.toInt_inj.mp (sl_one h g)) (rq_eqI h1 g1 rfl) (rq_eqI h2 g2 rfl)
theorem lone_row {o m : Nat → Int64} {c d : Nat → Nat} {N : Nat} (hc : c = d) (h : loP c (o 0).toInt (o 1).toInt 256) (g : loP d (m 0).toInt (m 1).toInt 256) (hN : N = 2) : ∀ j, j < N → o j = m j := by
  subst hc
  have e := lo_one h g
  exact rq_2 hN (Int64.toInt_inj.mp e.1) (Int64.toInt_inj.mp e.2)
theorem both_row {o m : Nat → Int64} {c d c' d' : Nat → Nat} {k p q N : Nat} (hc : c = c') (hd : d = d') (h : bsP c d k p) (g : bsP c' d' k q) (v1 : o 0 = lN (c p)) (v2 : m 0 = lN (c' q)) (w1 : o 1 = lN (d p)) (w2 : m 1 = lN (d' q)) (hN : N = 2) : ∀ j, j < N → o j = m j := by
  subst hc hd
  have e := bs_one h g
  exact rq_2 hN (by rw [v1, v2, e]) (by rw [w1, w2, e])
end GRA
