section GFPV
theorem updL_s {f g : Nat → Int64} {k : Nat} {x : Int64} (e : g = vp_updL f k x) : g k = x := by rw [e]; exact if_pos rfl
theorem updL_o {f g : Nat → Int64} {k j : Nat} {x : Int64} (e : g = vp_updL f k x) (h : j ≠ k) : g j = f j := by rw [e]; exact if_neg h
/-- k signs from a on as bits, the first one worth 1 -/
def bv (f : Nat → Int32) (a : Nat) : Nat → Nat
  | 0 => 0
  | k + 1 => bv f a k + (if (f (a + k)).toInt = 49 then 2 ^ k else 0)
theorem bv_lt (f : Nat → Int32) (a : Nat) : ∀ k, bv f a k < 2 ^ k
  | 0 => Nat.one_pos
  | k + 1 => by
    show bv f a k + (if (f (a + k)).toInt = 49 then 2 ^ k else 0) < 2 ^ (k + 1)
    have h := bv_lt f a k
    have e : 2 ^ (k + 1) = 2 ^ k * 2 := Nat.pow_succ ..
    split <;> omega
theorem bv_tb (f : Nat → Int32) (a : Nat) : ∀ k i, i < k → (bv f a k).testBit i = decide ((f (a + i)).toInt = 49)
  | 0, i, h => absurd h (Nat.not_lt_zero i)
  | k + 1, i, h => by
    show (bv f a k + (if (f (a + k)).toInt = 49 then 2 ^ k else 0)).testBit i = _
    have hl := bv_lt f a k
    by_cases e : i = k
    · subst e
      by_cases c : (f (a + i)).toInt = 49
      · rw [if_pos c, Nat.add_comm, Nat.testBit_two_pow_add_eq, Nat.testBit_lt_two_pow hl]; simp [c]
      · rw [if_neg c, Nat.add_zero, Nat.testBit_lt_two_pow hl]; simp [c]
    · have hik : i < k := by omega
      by_cases c : (f (a + k)).toInt = 49
      · rw [if_pos c, Nat.add_comm, Nat.testBit_two_pow_add_gt hik]; exact bv_tb f a k i hik
      · rw [if_neg c, Nat.add_zero]; exact bv_tb f a k i hik
theorem lor_N (a b : Nat) : lN a ||| lN b = lN (a ||| b) := by
  apply Int64.toBitVec_inj.mp
  show BitVec.ofNat 64 a ||| BitVec.ofNat 64 b = BitVec.ofNat 64 (a ||| b)
  exact BitVec.ofNat_or.symm
theorem bv_or {f : Nat → Int32} {a k w : Nat} (hw : (w : Int) = (f (a + k)).toInt - 48) (h0 : 48 ≤ (f (a + k)).toInt) (h1 : (f (a + k)).toInt ≤ 49) : lN (bv f a k) ||| lN (w * 2 ^ k) = lN (bv f a (k + 1)) := by
  have hl := bv_lt f a k
  rw [lor_N, Nat.or_comm, Nat.mul_comm w, ← Nat.two_pow_add_eq_or_of_lt hl w, Nat.add_comm (2 ^ k * w)]
  show _ = lN (bv f a k + (if (f (a + k)).toInt = 49 then 2 ^ k else 0))
  rcases (show w = 0 ∨ w = 1 by omega) with h | h
  · rw [if_neg (by omega), h, Nat.mul_zero]
  · rw [if_pos (by omega), h, Nat.mul_one]
theorem shl_w : ∀ w, w < 2 → ∀ k, k < 12 → lN w <<< ((nI k).toInt64 &&& 63) = lN (w * 2 ^ k) := by decide +kernel
/-- planes of bits b, w wide: where what stands at spot p of the first stands in the k-th, and its k highest bits -/
def nxb (b : Nat → Bool) (w s : Nat) : Nat := if b s then w - fb_ct b w + fb_ct b s else s - fb_ct b s
def spN (b : Nat → Nat → Bool) (w : Nat) : Nat → Nat → Nat
  | 0, p => p
  | k + 1, p => nxb (b k) w (spN b w k p)
def vlN (b : Nat → Nat → Bool) (w : Nat) : Nat → Nat → Nat
  | 0, _ => 0
  | k + 1, p => 2 * vlN b w k p + (if b k (spN b w k p) then 1 else 0)
theorem nxb_lt {b : Nat → Bool} {w s : Nat} (h : s < w) : nxb b w s < w := by
  unfold nxb
  have h1 := fb_ct_le b w
  have h2 := fb_ct_mono b (show s + 1 ≤ w from h)
  have h3 : fb_ct b (s + 1) = fb_ct b s + (if b s then 1 else 0) := rfl
  split
  · rename_i c; rw [if_pos c] at h3; omega
  · omega
theorem nxb_cong {b c : Nat → Bool} {w s : Nat} (hs : s < w) (h : ∀ i, i < w → b i = c i) : nxb b w s = nxb c w s := by
  unfold nxb
  rw [h s hs, fb_ct_cong (p := b) (q := c) (n := w) h, fb_ct_cong (p := b) (q := c) (n := s) (fun k hk => h k (by omega))]
theorem spN_lt {b : Nat → Nat → Bool} {w p : Nat} (h : p < w) : ∀ k, spN b w k p < w
  | 0 => h
  | k + 1 => nxb_lt (spN_lt h k)
theorem spN_cong {b c : Nat → Nat → Bool} {w p : Nat} (hp : p < w) : ∀ k, (∀ j, j < k → ∀ i, i < w → b j i = c j i) → spN b w k p = spN c w k p ∧ vlN b w k p = vlN c w k p
  | 0, _ => ⟨rfl, rfl⟩
  | k + 1, h => by
    obtain ⟨e1, e2⟩ := spN_cong hp k (fun j hj => h j (by omega))
    have hl := spN_lt (b := c) hp k
    constructor
    · show nxb (b k) w (spN b w k p) = nxb (c k) w (spN c w k p)
      rw [e1]; exact nxb_cong hl (h k (by omega))
    · show 2 * vlN b w k p + (if b k (spN b w k p) then 1 else 0) = 2 * vlN c w k p + (if c k (spN c w k p) then 1 else 0)
      rw [e1, e2, h k (by omega) _ hl]
theorem vlN_lt (b : Nat → Nat → Bool) (w p : Nat) : ∀ k, vlN b w k p < 2 ^ k
  | 0 => Nat.one_pos
  | k + 1 => by
    show 2 * vlN b w k p + (if b k (spN b w k p) then 1 else 0) < 2 ^ (k + 1)
    have h := vlN_lt b w p k
    have e : 2 ^ (k + 1) = 2 ^ k * 2 := Nat.pow_succ ..
    split <;> omega
/-- a bit as a number -/
def bN (b : Bool) : Nat := if b then 1 else 0
theorem bN_le (b : Bool) : bN b ≤ 1 := by cases b <;> decide
theorem bN_t {b : Bool} (h : bN b ≠ 0) : b = true := by cases b <;> first | rfl | exact absurd rfl h
theorem bN_f {b : Bool} (h : bN b = 0) : b = false := by cases b <;> first | rfl | exact absurd h (by decide)
theorem sh_c : ∀ k, k < 64 → ((nI k).toInt64.toUInt64 &&& Int64.toUInt64 63).toBitVec.toNat % 64 = k := by decide +kernel
theorem toI_lN (x : Int64) : x.toInt32 = nI (uw x) := by
  have h := congrArg Int64.toInt32 (lN_uw x)
  rw [← h]; exact Int64.toInt32_ofNat'
theorem bitAt_eq (x : Int64) {k : Nat} (hk : k < 64) : (zlu x (nI k) &&& 1).toInt32 = nI (bN (lbit x k)) := by
  rw [toI_lN, uw_and, uw_zlu x (sh_c k hk) rfl, show uw (1 : Int64) = 1 by decide +kernel, Nat.and_one_is_mod, lbit_uw]
  congr 1
  rw [← Nat.toNat_testBit]
  unfold bN
  cases (uw x).testBit k <;> rfl
theorem low_c : ∀ u, u < 64 → (1 : Int64) <<< ((nI u).toInt64 &&& 63) - 1 = lN (2 ^ u - 1) := by decide +kernel
theorem low_1 {u : Nat} (h : u < 64) : ∀ i, i < 64 → lbit ((1 : Int64) <<< ((nI u).toInt64 &&& 63) - 1) i = decide (i < u) := by
  intro i _
  have hp : 2 ^ u < 18446744073709551616 := Nat.lt_of_lt_of_le (Nat.pow_lt_pow_right (by decide) h) (by decide)
  rw [low_c u h, lbit_uw, uw_lN (by omega), Nat.testBit_two_pow_sub_one]
theorem low_2 {u : Nat} (h : 64 ≤ u) : ∀ i, i < 64 → lbit (-1) i = decide (i < u) := by
  intro i hi
  rw [decide_eq_true (show i < u by omega)]
  exact (by decide +kernel : ∀ i, i < 64 → lbit (-1) i = true) i hi
theorem lbit_and (x y : Int64) (i : Nat) : lbit (x &&& y) i = (lbit x i && lbit y i) := by
  unfold lbit; rw [Int64.toBitVec_and, BitVec.getLsbD_and]
theorem ct_cut {p q : Nat → Bool} {s n : Nat} (hs : s ≤ n) (h1 : ∀ i, i < s → p i = q i) (h2 : ∀ i, s ≤ i → i < n → p i = false) : fb_ct p n = fb_ct q s := by
  obtain ⟨d, rfl⟩ : ∃ d, n = s + d := ⟨n - s, by omega⟩
  rw [fb_ct_split, fb_ct_cong h1, fb_ct_zero.mpr (fun k hk => h2 (s + k) (by omega) (by omega)), Nat.add_zero]
theorem pcn_low {x r : Int64} {s : Nat} (h : ∀ i, i < 64 → lbit r i = decide (i < s)) (hs : s ≤ 64) : pcn (x &&& r) = fb_ct (lbit x) s :=
  ct_cut hs (fun i hi => by rw [lbit_and, h i (by omega), decide_eq_true hi, Bool.and_true]) (fun i h1 h2 => by rw [lbit_and, h i h2, decide_eq_false (by omega), Bool.and_false])
theorem pcn_w {x : Int64} {w : Nat} (h : ∀ i, w ≤ i → i < 64 → lbit x i = false) (hw : w ≤ 64) : pcn x = fb_ct (lbit x) w := ct_cut hw (fun _ _ => rfl) h
/-- THE TEXT's planes: bit i of row j; the numbers that they make -/
def plB (f : Nat → Int32) (n w j i : Nat) : Bool := isS f n (plA w j + i) 49
theorem bl_bit {f : Nat → Int32} {n : Nat} : ∀ (m a i : Nat), i < blen f n m a → bitS f n (a + i) = true
  | 0, _, i, h => absurd h (Nat.not_lt_zero i)
  | m + 1, a, i, h => by
    have h2 : i < (if bitS f n a then blen f n m (a + 1) + 1 else 0) := h
    by_cases hb : bitS f n a = true
    · rw [if_pos hb] at h2
      cases i with
      | zero => exact hb
      | succ i => rw [show a + (i + 1) = a + 1 + i by omega]; exact bl_bit m (a + 1) i (by omega)
    · rw [if_neg hb] at h2; exact absurd h2 (Nat.not_lt_zero i)
theorem plB_at {f : Nat → Int32} {n w j i m : Nat} (h : i < blen f n m (plA w j)) : plB f n w j i = decide ((f (plA w j + i)).toInt = 49) := by
  have h2 := (bitS_iff.mp (bl_bit m (plA w j) i h)).1
  unfold plB isS; rw [decide_eq_true h2, Bool.true_and]
theorem bv_bit {f : Nat → Int32} {a w i : Nat} (hw : w ≤ 11) : lbit (lN (bv f a w)) i = (bv f a w).testBit i := by
  have h := bv_lt f a w
  have hp : 2 ^ w ≤ 2 ^ 11 := Nat.pow_le_pow_right (by decide) hw
  rw [lbit_uw, uw_lN (by omega)]
theorem bv_hi {f : Nat → Int32} {a w i : Nat} (hw : w ≤ 11) (hi : w ≤ i) : lbit (lN (bv f a w)) i = false := by
  rw [bv_bit hw]
  exact Nat.testBit_lt_two_pow (Nat.lt_of_lt_of_le (bv_lt f a w) (Nat.pow_le_pow_right (by decide) hi))
theorem pl_z {f : Nat → Int32} {n w : Nat} {qb : Nat → Int64} (hq : ∀ j, j < 8 → qb j = lN (bv f (plA (plW f n) j) (plW f n))) (hw : w = plW f n) : ∀ j, j < 8 → ∀ i, w ≤ i → i < 64 → lbit (qb j) i = false := by
  intro j hj i hi _
  rw [hq j hj]; exact bv_hi (plW_le f n) (by omega)
theorem pl_vl {f : Nat → Int32} {n w p : Nat} {qb : Nat → Int64} (hq : ∀ j, j < 8 → qb j = lN (bv f (plA (plW f n) j) (plW f n))) (hw : w = plW f n) (hok : plOk f n) (hp : p < w) : vlN (fun j i => lbit (qb j) i) w 8 p = vlN (plB f n (plW f n)) (plW f n) 8 p := by
  subst hw
  refine (spN_cong hp 8 (fun j hj i hi => ?_)).2
  show lbit (qb j) i = plB f n (plW f n) j i
  have hr := (hok j hj).1
  rw [hq j hj, bv_bit (plW_le f n), bv_tb f _ _ i hi, plB_at (m := plW f n) (by rw [hr]; exact hi)]
theorem plB_tie {f g : Nat → Int32} {n : Nat} (h : txEq n f g) (w : Nat) : plB f n w = plB g n w := by
  funext j i; exact isS_eq h _ _
theorem plv_tie {f g : Nat → Int32} {n : Nat} (h : txEq n f g) (j : Nat) : vlN (plB f n (plW f n)) (plW f n) 8 j = vlN (plB g n (plW g n)) (plW g n) 8 j := by
  rw [(pl_tie h).1, plB_tie h]
theorem nv_step {f g F : Nat → Int32} {k : Nat} {v : Int32} (e : g = upd f k v) (hv : v = F k) (h : ∀ j, j < k → f j = F j) : ∀ j, j < k + 1 → g j = F j := by
  intro j hj
  rw [e]
  by_cases c : j = k
  · subst c; rw [pk_us, hv]
  · rw [pk_un c]; exact h j (by omega)
theorem rb_step {f g F : Nat → Int32} {a k : Nat} {v : Int32} (e : g = upd f (a + k) v) (hv : v = F k) (h : ∀ j, j < k → f (a + j) = F j) : ∀ j, j < k + 1 → g (a + j) = F j := by
  intro j hj
  rw [e]
  by_cases c : j = k
  · subst c; rw [pk_us, hv]
  · rw [pk_un (by omega)]; exact h j (by omega)
theorem ro_step {f g m : Nat → Int32} {p n : Nat} {v : Int32} (e : g = upd f p v) (hp : n ≤ p) (h : ∀ q, q < n → f q = m q) : ∀ q, q < n → g q = m q := by
  intro q hq
  rw [e, pk_un (by omega)]; exact h q hq
theorem bit_val {x y : Int32} (t : x.toInt = y.toInt - 48) (h : y.toInt = 48 ∨ y.toInt = 49) : x = nI (bN (decide (y.toInt = 49))) := by
  rcases h with h | h
  · exact my_eqI (a := 0) (by omega) (by rw [h]; decide +kernel)
  · exact my_eqI (a := 1) (by omega) (by rw [h]; decide +kernel)
theorem rb_row {f g : Nat → Int32} {n w k a kk m : Nat} (hA : a = plA w k) (hr : kk = blen f n m a) (h : ∀ i, i < kk → g (11 * k + i) = nI (bN (decide ((f (a + i)).toInt = 49)))) : ∀ i, i < kk → g (11 * k + i) = nI (bN (plB f n w k i)) := by
  intro i hi
  subst hA
  rw [h i hi, plB_at (m := m) (by rw [← hr]; exact hi)]
/-- how the reference walks the planes -/
def plP (b : Nat → Bool) (s k : Nat) : Bool := decide (k < s ∧ bN (b k) = bN (b s))
def plZ (b : Nat → Bool) (k : Nat) : Bool := decide (bN (b k) = 0)
theorem ct_yes {P : Nat → Bool} {k a : Nat} (h : a = fb_ct P k) (hp : P k = true) : a + 1 = fb_ct P (k + 1) := by
  rw [fb_ct_succ, if_pos hp, h]
theorem ct_no {P : Nat → Bool} {k a : Nat} (h : a = fb_ct P k) (hp : P k = false) : a = fb_ct P (k + 1) := by
  rw [fb_ct_succ, hp, h]; rfl
theorem nx_0 {b : Nat → Bool} {w s a : Nat} (ha : a = fb_ct (plP b s) w) (hs : s < w) (h0 : bN (b s) = 0) : a = nxb b w s := by
  have e : fb_ct (plP b s) w = fb_ct (fun i => !b i) s := ct_cut (by omega) (fun i hi => by
    unfold plP; rw [h0]
    cases hb : b i
    · exact decide_eq_true ⟨hi, rfl⟩
    · exact decide_eq_false (fun q => absurd q.2 (by decide))) (fun i h1 _ => decide_eq_false (fun q => by have := q.1; omega))
  have hn := fb_ct_not b s
  unfold nxb; rw [bN_f h0, if_neg (by decide), ha, e]; omega
theorem nx_1 {b : Nat → Bool} {w s a z : Nat} (ha : a = fb_ct (plP b s) w) (hz : z = fb_ct (plZ b) w) (hs : s < w) (h1 : bN (b s) ≠ 0) : z + a = nxb b w s := by
  have hb1 := bN_t h1
  have e : fb_ct (plP b s) w = fb_ct b s := ct_cut (by omega) (fun i hi => by
    unfold plP; rw [hb1]
    cases hb : b i
    · exact decide_eq_false (fun q => absurd q.2 (by decide))
    · exact decide_eq_true ⟨hi, rfl⟩) (fun i h1 _ => decide_eq_false (fun q => by have := q.1; omega))
  have e2 : fb_ct (plZ b) w = fb_ct (fun i => !b i) w := fb_ct_cong (fun i _ => by unfold plZ; cases b i <;> decide)
  have hn := fb_ct_not b w
  unfold nxb; rw [hb1, if_pos rfl, ha, hz, e, e2]; omega
end GFPV
