section GFB
/-- a long as a natural number, its bits, how many of them are 1 -/
def uw (x : Int64) : Nat := x.toBitVec.toNat
def lbit (x : Int64) (i : Nat) : Bool := x.toBitVec.getLsbD i
def pcn (x : Int64) : Nat := fb_ct (lbit x) 64
theorem pcn_le (x : Int64) : pcn x ≤ 64 := fb_ct_le _ 64
theorem uw_lt (x : Int64) : uw x < 18446744073709551616 := x.toBitVec.isLt
theorem lbit_uw (x : Int64) (i : Nat) : lbit x i = (uw x).testBit i := rfl
theorem uw_lN {n : Nat} (h : n < 18446744073709551616) : uw (lN n) = n := by
  show (BitVec.ofNat 64 n).toNat = n
  rw [BitVec.toNat_ofNat]; exact Nat.mod_eq_of_lt h
theorem lN_uw (x : Int64) : lN (uw x) = x := by
  apply Int64.toBitVec_inj.mp
  show BitVec.ofNat 64 x.toBitVec.toNat = x.toBitVec
  rw [BitVec.ofNat_toNat, BitVec.setWidth_eq]
theorem uw_and (x y : Int64) : uw (x &&& y) = uw x &&& uw y := by
  unfold uw; rw [Int64.toBitVec_and, BitVec.toNat_and]
theorem uw_add {x y : Int64} (h : uw x + uw y < 18446744073709551616) : uw (x + y) = uw x + uw y := by
  unfold uw at *; rw [Int64.toBitVec_add, BitVec.toNat_add]; exact Nat.mod_eq_of_lt h
theorem uw_sub {x y : Int64} (h : uw y ≤ uw x) : uw (x - y) = uw x - uw y := by
  unfold uw at *; rw [Int64.toBitVec_sub]; exact BitVec.toNat_sub_of_le (BitVec.le_def.mpr h)
/-- the unsigned shift as the machine says it -/
def zlu (x : Int64) (s : Int32) : Int64 := (x.toUInt64 >>> (s.toInt64.toUInt64 &&& Int64.toUInt64 63)).toInt64
theorem uw_zlu (x : Int64) {s : Int32} {k p : Nat} (h : (s.toInt64.toUInt64 &&& Int64.toUInt64 63).toBitVec.toNat % 64 = k) (hp : 2 ^ k = p) : uw (zlu x s) = uw x / p := by
  have e : ((s.toInt64.toUInt64 &&& Int64.toUInt64 63).toBitVec % 64).toNat = k := by rw [BitVec.toNat_umod]; exact h
  show (x.toUInt64 >>> (s.toInt64.toUInt64 &&& Int64.toUInt64 63)).toBitVec.toNat = x.toBitVec.toNat / p
  rw [UInt64.toBitVec_shiftRight, BitVec.ushiftRight_eq', e, BitVec.toNat_ushiftRight, Nat.shiftRight_eq_div_pow, hp]; rfl
theorem and256 {a b c d : Nat} (hb : b < 256) (hd : d < 256) : (256 * a + b) &&& (256 * c + d) = 256 * (a &&& c) + (b &&& d) := by
  apply Nat.eq_of_testBit_eq
  intro i
  have hbd : b &&& d < 2 ^ 8 := Nat.lt_of_le_of_lt Nat.and_le_left hb
  have e1 : (256 * a + b).testBit i = if i < 8 then b.testBit i else a.testBit (i - 8) := Nat.testBit_two_pow_mul_add a (show b < 2 ^ 8 from hb) i
  have e2 : (256 * c + d).testBit i = if i < 8 then d.testBit i else c.testBit (i - 8) := Nat.testBit_two_pow_mul_add c (show d < 2 ^ 8 from hd) i
  have e3 : (256 * (a &&& c) + (b &&& d)).testBit i = if i < 8 then (b &&& d).testBit i else (a &&& c).testBit (i - 8) := Nat.testBit_two_pow_mul_add (a &&& c) hbd i
  rw [Nat.testBit_and, e1, e2, e3]
  by_cases h : i < 8
  · rw [if_pos h, if_pos h, if_pos h, Nat.testBit_and]
  · rw [if_neg h, if_neg h, if_neg h, Nat.testBit_and]
def m5 : Nat → Nat
  | 0 => 0
  | k + 1 => 256 * m5 k + 85
def m3 : Nat → Nat
  | 0 => 0
  | k + 1 => 256 * m3 k + 51
def mf : Nat → Nat
  | 0 => 0
  | k + 1 => 256 * mf k + 15
def s1 (M n : Nat) : Nat := n - (n / 2 &&& M)
def s2 (M n : Nat) : Nat := (n &&& M) + (n / 4 &&& M)
def s3 (M n : Nat) : Nat := (n + n / 16) &&& M
theorem s1_b : ∀ e, e < 2 → ∀ l, l < 256 → (e * 128 + l / 2) &&& 85 = l / 2 &&& 85 := by decide +kernel
theorem s2_b : ∀ e, e < 4 → ∀ l, l < 256 → (e * 64 + l / 4) &&& 51 = l / 4 &&& 51 := by decide +kernel
theorem s3_b : ∀ e, e < 5 → ∀ l, l < 69 → (l + l / 16 + 16 * e) &&& 15 = (l + l / 16) &&& 15 := by decide +kernel
theorem s1_s {k h l : Nat} (hl : l < 256) : s1 (m5 (k + 1)) (256 * h + l) = 256 * s1 (m5 k) h + s1 85 l := by
  unfold s1
  show _ - (_ &&& (256 * m5 k + 85)) = _
  rw [show (256 * h + l) / 2 = 256 * (h / 2) + (h % 2 * 128 + l / 2) by omega, and256 (by omega) (by omega), s1_b (h % 2) (by omega) l hl]
  have h1 : h / 2 &&& m5 k ≤ h / 2 := Nat.and_le_left
  have h2 : l / 2 &&& 85 ≤ l / 2 := Nat.and_le_left
  generalize h / 2 &&& m5 k = u at *
  generalize l / 2 &&& 85 = v at *
  omega
theorem s2_s {k h l : Nat} (hl : l < 256) : s2 (m3 (k + 1)) (256 * h + l) = 256 * s2 (m3 k) h + s2 51 l := by
  unfold s2
  show (_ &&& (256 * m3 k + 51)) + (_ &&& (256 * m3 k + 51)) = _
  rw [show (256 * h + l) / 4 = 256 * (h / 4) + (h % 4 * 64 + l / 4) by omega, and256 hl (by omega), and256 (by omega) (by omega), s2_b (h % 4) (by omega) l hl]
  generalize h &&& m3 k = u
  generalize h / 4 &&& m3 k = v
  generalize l &&& 51 = y
  generalize l / 4 &&& 51 = z
  omega
theorem s3_s {k h l : Nat} (hl : l ≤ 68) (hh : h % 16 ≤ 4) : s3 (mf (k + 1)) (256 * h + l) = 256 * s3 (mf k) h + s3 15 l := by
  unfold s3
  show (_ &&& (256 * mf k + 15)) = _
  rw [show 256 * h + l + (256 * h + l) / 16 = 256 * (h + h / 16) + (l + l / 16 + 16 * (h % 16)) by omega, and256 (by omega) (by omega), s3_b (h % 16) (by omega) l (by omega)]
def pb (l : Nat) : Nat := fb_ct (fun i => l.testBit i) 8
theorem pb_all : ∀ l, l < 256 → s1 85 l < 256 ∧ s2 51 (s1 85 l) ≤ 68 ∧ s2 51 (s1 85 l) % 16 ≤ 4 ∧ s3 15 (s2 51 (s1 85 l)) = pb l := by decide +kernel
theorem pb_le (l : Nat) : pb l ≤ 8 := fb_ct_le _ 8
def pc : Nat → Nat → Nat
  | 0, _ => 0
  | k + 1, n => 256 * pc k (n / 256) + pb (n % 256)
def sb : Nat → Nat → Nat
  | 0, _ => 0
  | k + 1, n => sb k (n / 256) + pb (n % 256)
theorem pc_eq : ∀ k n, n < 256 ^ k → s3 (mf k) (s2 (m3 k) (s1 (m5 k) n)) = pc k n ∧ s2 (m3 k) (s1 (m5 k) n) % 16 ≤ 4
  | 0, n, h => by
    have e : n = 0 := by have e0 : (256 : Nat) ^ 0 = 1 := rfl
                         omega
    subst e; decide
  | k + 1, n, h => by
    have hl : n % 256 < 256 := Nat.mod_lt _ (by decide)
    have ep : 256 ^ (k + 1) = 256 ^ k * 256 := Nat.pow_succ ..
    have hh : n / 256 < 256 ^ k := Nat.div_lt_of_lt_mul (by rw [Nat.mul_comm, ← ep]; exact h)
    obtain ⟨i1, i2⟩ := pc_eq k (n / 256) hh
    obtain ⟨b1, b2, b3, b4⟩ := pb_all (n % 256) hl
    show s3 (mf (k + 1)) (s2 (m3 (k + 1)) (s1 (m5 (k + 1)) n)) = 256 * pc k (n / 256) + pb (n % 256) ∧ _
    have e : n = 256 * (n / 256) + n % 256 := by omega
    generalize n / 256 = q at *
    generalize n % 256 = r at *
    rw [e, s1_s hl, s2_s b1, s3_s b2 i2, i1, b4]
    exact ⟨rfl, by omega⟩
theorem ct_8 (n k : Nat) : fb_ct (fun i => n.testBit i) (8 + k) = fb_ct (fun i => (n / 256).testBit i) k + pb (n % 256) := by
  rw [fb_ct_split, Nat.add_comm]
  have e1 : fb_ct (fun i => n.testBit (8 + i)) k = fb_ct (fun i => (n / 256).testBit i) k := fb_ct_cong (fun i _ => by
    show n.testBit (8 + i) = (n / 2 ^ 8).testBit i
    rw [Nat.testBit_div_two_pow, Nat.add_comm])
  have e2 : fb_ct (fun i => n.testBit i) 8 = pb (n % 256) := fb_ct_cong (fun i hi => by
    show n.testBit i = (n % 2 ^ 8).testBit i
    rw [Nat.testBit_mod_two_pow]; simp [hi])
  rw [e1, e2]
theorem ct_sb : ∀ k n, fb_ct (fun i => n.testBit i) (8 * k) = sb k n
  | 0, _ => rfl
  | k + 1, n => by
    rw [show 8 * (k + 1) = 8 + 8 * k by omega, ct_8, ct_sb k (n / 256)]; rfl
theorem dig8 (n : Nat) : ∃ c0 c1 c2 c3 c4 c5 c6 c7 : Nat, (c0 ≤ 8 ∧ c1 ≤ 8 ∧ c2 ≤ 8 ∧ c3 ≤ 8 ∧ c4 ≤ 8 ∧ c5 ≤ 8 ∧ c6 ≤ 8 ∧ c7 ≤ 8) ∧ pc 8 n = 256 * (256 * (256 * (256 * (256 * (256 * (256 * (256 * 0 + c7) + c6) + c5) + c4) + c3) + c2) + c1) + c0 ∧ sb 8 n = 0 + c7 + c6 + c5 + c4 + c3 + c2 + c1 + c0 :=
  ⟨pb (n % 256), pb (n / 256 % 256), pb (n / 256 / 256 % 256), pb (n / 256 / 256 / 256 % 256), pb (n / 256 / 256 / 256 / 256 % 256), pb (n / 256 / 256 / 256 / 256 / 256 % 256), pb (n / 256 / 256 / 256 / 256 / 256 / 256 % 256), pb (n / 256 / 256 / 256 / 256 / 256 / 256 / 256 % 256),
    ⟨pb_le _, pb_le _, pb_le _, pb_le _, pb_le _, pb_le _, pb_le _, pb_le _⟩, rfl, rfl⟩
theorem fold8 {c0 c1 c2 c3 c4 c5 c6 c7 y a b c : Nat} (h : c0 ≤ 8 ∧ c1 ≤ 8 ∧ c2 ≤ 8 ∧ c3 ≤ 8 ∧ c4 ≤ 8 ∧ c5 ≤ 8 ∧ c6 ≤ 8 ∧ c7 ≤ 8) (hy : y = 256 * (256 * (256 * (256 * (256 * (256 * (256 * (256 * 0 + c7) + c6) + c5) + c4) + c3) + c2) + c1) + c0) (ha : a = y + y / 256) (hb : b = a + a / 65536) (hc : c = b + b / 4294967296) : c % 128 = 0 + c7 + c6 + c5 + c4 + c3 + c2 + c1 + c0 ∧ y < 1000000000000000000 ∧ a < 2000000000000000000 ∧ b < 4000000000000000000 := by
  obtain ⟨h0, h1, h2, h3, h4, h5, h6, h7⟩ := h
  have e0 : y = c0 + 256 * c1 + 65536 * c2 + 16777216 * c3 + 4294967296 * c4 + 1099511627776 * c5 + 281474976710656 * c6 + 72057594037927936 * c7 := by omega
  have e1 : y / 256 = c1 + 256 * c2 + 65536 * c3 + 16777216 * c4 + 4294967296 * c5 + 1099511627776 * c6 + 281474976710656 * c7 := by omega
  have e2 : a = (c0 + c1) + 256 * (c1 + c2) + 65536 * (c2 + c3) + 16777216 * (c3 + c4) + 4294967296 * (c4 + c5) + 1099511627776 * (c5 + c6) + 281474976710656 * (c6 + c7) + 72057594037927936 * c7 := by omega
  clear hy ha
  have e3 : a / 65536 = (c2 + c3) + 256 * (c3 + c4) + 65536 * (c4 + c5) + 16777216 * (c5 + c6) + 4294967296 * (c6 + c7) + 1099511627776 * c7 := by omega
  have e4 : b = (c0 + c1 + c2 + c3) + 256 * (c1 + c2 + c3 + c4) + 65536 * (c2 + c3 + c4 + c5) + 16777216 * (c3 + c4 + c5 + c6) + 4294967296 * (c4 + c5 + c6 + c7) + 1099511627776 * (c5 + c6 + c7) + 281474976710656 * (c6 + c7) + 72057594037927936 * c7 := by omega
  clear hb
  have e5 : b / 4294967296 = (c4 + c5 + c6 + c7) + 256 * (c5 + c6 + c7) + 65536 * (c6 + c7) + 16777216 * c7 := by omega
  have e6 : c % 128 = 0 + c7 + c6 + c5 + c4 + c3 + c2 + c1 + c0 := by clear e0 e1 e2 e3; omega
  refine ⟨e6, ?_, ?_, ?_⟩
  · clear e1 e2 e3 e4 e5 e6 hc; omega
  · clear e0 e1 e3 e4 e5 e6 hc; omega
  · clear e0 e1 e2 e3 e5 e6 hc; omega
/-- Long.bitCount -/
def zl1 (x : Int64) : Int64 := x - (zlu x 1 &&& 6148914691236517205)
def zl2 (x : Int64) : Int64 := (x &&& 3689348814741910323) + (zlu x 2 &&& 3689348814741910323)
def zl3 (x : Int64) : Int64 := (x + zlu x 4) &&& 1085102592571150095
def zl4 (x : Int64) : Int64 := x + zlu x 8
def zl5 (x : Int64) : Int64 := x + zlu x 16
def zl6 (x : Int64) : Int64 := x + zlu x 32
def zlc (x : Int64) : Int32 := (zl6 (zl5 (zl4 (zl3 (zl2 (zl1 x)))))).toInt32 &&& 127
theorem zl_1 (x : Int64) : uw (zl1 x) = s1 (m5 8) (uw x) := by
  have e : uw (zlu x 1 &&& 6148914691236517205) = uw x / 2 &&& m5 8 := by
    rw [uw_and, uw_zlu x (k := 1) (p := 2) (by decide +kernel) rfl, show uw (6148914691236517205 : Int64) = m5 8 by decide +kernel]
  unfold zl1 s1
  rw [uw_sub (by rw [e]; exact Nat.le_trans Nat.and_le_left (Nat.div_le_self _ _)), e]
theorem zl_2 (x : Int64) : uw (zl2 x) = s2 (m3 8) (uw x) := by
  have e : uw (zlu x 2 &&& 3689348814741910323) = uw x / 4 &&& m3 8 := by
    rw [uw_and, uw_zlu x (k := 2) (p := 4) (by decide +kernel) rfl, show uw (3689348814741910323 : Int64) = m3 8 by decide +kernel]
  have e2 : uw (x &&& 3689348814741910323) = uw x &&& m3 8 := by
    rw [uw_and, show uw (3689348814741910323 : Int64) = m3 8 by decide +kernel]
  have h1 : uw x &&& m3 8 ≤ m3 8 := Nat.and_le_right
  have h2 : uw x / 4 &&& m3 8 ≤ m3 8 := Nat.and_le_right
  have h3 : m3 8 = 3689348814741910323 := by decide +kernel
  unfold zl2 s2
  rw [uw_add (by rw [e, e2]; omega), e, e2]
theorem zl_3 {x : Int64} (h : uw x ≤ 2 * 3689348814741910323) : uw (zl3 x) = s3 (mf 8) (uw x) := by
  have e : uw (zlu x 4) = uw x / 16 := uw_zlu x (k := 4) (p := 16) (by decide +kernel) rfl
  unfold zl3 s3
  rw [uw_and, uw_add (by rw [e]; omega), e, show uw (1085102592571150095 : Int64) = mf 8 by decide +kernel]
theorem toI_mask (x : Int64) : x.toInt32 &&& 127 = nI (uw x % 128) := by
  have e : x.toInt32 = nI (uw x) := by
    have h := congrArg Int64.toInt32 (lN_uw x)
    rw [← h]; exact Int64.toInt32_ofNat'
  rw [e]; exact my_maskN (uw x) 7
theorem zlc_pcn (x : Int64) : zlc x = nI (pcn x) := by
  have hn := uw_lt x
  have hs2 : s2 (m3 8) (s1 (m5 8) (uw x)) ≤ 2 * 3689348814741910323 := by
    have h1 : s1 (m5 8) (uw x) &&& m3 8 ≤ m3 8 := Nat.and_le_right
    have h2 : s1 (m5 8) (uw x) / 4 &&& m3 8 ≤ m3 8 := Nat.and_le_right
    have h3 : m3 8 = 3689348814741910323 := by decide +kernel
    unfold s2; omega
  have e3 : uw (zl3 (zl2 (zl1 x))) = pc 8 (uw x) := by
    rw [zl_3 (by rw [zl_2, zl_1]; exact hs2), zl_2, zl_1]
    exact (pc_eq 8 (uw x) (by have e : (256 : Nat) ^ 8 = 18446744073709551616 := by decide
                              omega)).1
  obtain ⟨c0, c1, c2, c3, c4, c5, c6, c7, hc, hy, hs⟩ := dig8 (uw x)
  have hf := fold8 hc hy rfl rfl rfl
  have e4 : uw (zl4 (zl3 (zl2 (zl1 x)))) = pc 8 (uw x) + pc 8 (uw x) / 256 := by
    have e : uw (zlu (zl3 (zl2 (zl1 x))) 8) = pc 8 (uw x) / 256 := by rw [uw_zlu _ (k := 8) (p := 256) (by decide +kernel) rfl, e3]
    unfold zl4; rw [uw_add (by rw [e, e3]; omega), e, e3]
  have e5 : uw (zl5 (zl4 (zl3 (zl2 (zl1 x))))) = (pc 8 (uw x) + pc 8 (uw x) / 256) + (pc 8 (uw x) + pc 8 (uw x) / 256) / 65536 := by
    have e : uw (zlu (zl4 (zl3 (zl2 (zl1 x)))) 16) = (pc 8 (uw x) + pc 8 (uw x) / 256) / 65536 := by rw [uw_zlu _ (k := 16) (p := 65536) (by decide +kernel) rfl, e4]
    unfold zl5; rw [uw_add (by rw [e, e4]; omega), e, e4]
  have e6 : uw (zl6 (zl5 (zl4 (zl3 (zl2 (zl1 x)))))) = ((pc 8 (uw x) + pc 8 (uw x) / 256) + (pc 8 (uw x) + pc 8 (uw x) / 256) / 65536) + ((pc 8 (uw x) + pc 8 (uw x) / 256) + (pc 8 (uw x) + pc 8 (uw x) / 256) / 65536) / 4294967296 := by
    have e : uw (zlu (zl5 (zl4 (zl3 (zl2 (zl1 x))))) 32) = ((pc 8 (uw x) + pc 8 (uw x) / 256) + (pc 8 (uw x) + pc 8 (uw x) / 256) / 65536) / 4294967296 := by rw [uw_zlu _ (k := 32) (p := 4294967296) (by decide +kernel) rfl, e5]
    unfold zl6; rw [uw_add (by rw [e, e5]; omega), e, e5]
  unfold zlc
  rw [toI_mask, e6, hf.1, ← hs]
  have h8 := ct_sb 8 (uw x)
  rw [← h8]; rfl
end GFB
