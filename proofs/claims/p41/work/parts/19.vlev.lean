section GFV
theorem ct_nb (b : Nat → Bool) (k : Nat) : k - fb_ct b k = fb_ct (fun i => !b i) k := by
  have := fb_ct_not b k; omega
theorem nxb_t {b : Nat → Bool} {n k : Nat} (h : b k = true) : nxb b n k = n - fb_ct b n + fb_ct b k := by unfold nxb; rw [if_pos h]
theorem nxb_f {b : Nat → Bool} {n k : Nat} (h : b k = false) : nxb b n k = k - fb_ct b k := by unfold nxb; rw [h]; rfl
theorem ct_lt {p : Nat → Bool} {k n : Nat} (hk : k < n) (h : p k = true) : fb_ct p k < fb_ct p n := by
  have h1 := fb_ct_mono p (show k + 1 ≤ n from hk)
  rw [fb_ct_succ, if_pos h] at h1; omega
theorem nxb_inj {b : Nat → Bool} {n k l : Nat} (hk : k < n) (hl : l < n) (e : nxb b n k = nxb b n l) : k = l := by
  have hn := ct_nb b n
  cases bk : b k <;> cases bl : b l
  · rw [nxb_f bk, nxb_f bl, ct_nb, ct_nb] at e
    exact fb_ct_kth_one (p := fun i => !b i) (by simp [bk]) (by simp [bl]) e
  · rw [nxb_f bk, nxb_t bl, ct_nb, hn] at e
    have := ct_lt (p := fun i => !b i) hk (by simp [bk]); omega
  · rw [nxb_t bk, nxb_f bl, ct_nb b l, hn] at e
    have := ct_lt (p := fun i => !b i) hl (by simp [bl]); omega
  · rw [nxb_t bk, nxb_t bl] at e
    exact fb_ct_kth_one bk bl (by omega)
theorem nxb_surj {b : Nat → Bool} {n i : Nat} (hi : i < n) : ∃ k, k < n ∧ nxb b n k = i := by
  have hn := fb_ct_not b n
  by_cases h : i < fb_ct (fun i => !b i) n
  · obtain ⟨k, k1, k2, k3⟩ := fb_ct_kth h
    refine ⟨k, k1, ?_⟩
    rw [nxb_f (by simpa using k2), ct_nb]; exact k3
  · obtain ⟨k, k1, k2, k3⟩ := fb_ct_kth (p := b) (k := i - fb_ct (fun i => !b i) n) (n := n) (by omega)
    refine ⟨k, k1, ?_⟩
    rw [nxb_t k2, ct_nb, k3]; omega
def nxi (b : Nat → Bool) (n i : Nat) : Nat := fa_first (fun k => decide (nxb b n k = i)) n
theorem nxi_spec {b : Nat → Bool} {n i : Nat} (hi : i < n) : nxi b n i < n ∧ nxb b n (nxi b n i) = i := by
  have hlt : nxi b n i < n := by
    rcases Nat.lt_or_ge (nxi b n i) n with h | h
    · exact h
    · obtain ⟨k, k1, k2⟩ := nxb_surj (b := b) hi
      have := fa_first_no (fun k => decide (nxb b n k = i)) n k (Nat.lt_of_lt_of_le k1 h)
      rw [decide_eq_true k2] at this; cases this
  exact ⟨hlt, of_decide_eq_true (fa_first_yes (fun k => decide (nxb b n k = i)) n hlt)⟩
theorem nxi_nxb {b : Nat → Bool} {n k : Nat} (hk : k < n) : nxi b n (nxb b n k) = k :=
  nxb_inj (nxi_spec (nxb_lt hk)).1 hk (nxi_spec (nxb_lt hk)).2
/-- bit 7 - j of a number; the order in which a level has the places; its bits -/
def bitJ (x : Int32) (j : Nat) : Bool := x.toInt.toNat.testBit (7 - j)
def ordF (f : Nat → Int32) (n : Nat) : Nat → Nat → Nat
  | 0, i => i
  | j + 1, i => ordF f n j (nxi (fun k => bitJ (f (ordF f n j k)) j) n i)
def lvB (f : Nat → Int32) (n j i : Nat) : Bool := bitJ (f (ordF f n j i)) j
theorem ordF_lt {f : Nat → Int32} {n : Nat} : ∀ (j : Nat) {i : Nat}, i < n → ordF f n j i < n
  | 0, _, h => h
  | j + 1, i, h => by
    show ordF f n j (nxi (lvB f n j) n i) < n
    exact ordF_lt j (nxi_spec h).1
theorem ordF_s {f : Nat → Int32} {n j k : Nat} (hk : k < n) : ordF f n (j + 1) (nxb (lvB f n j) n k) = ordF f n j k := by
  show ordF f n j (nxi (lvB f n j) n (nxb (lvB f n j) n k)) = _
  rw [nxi_nxb hk]
theorem ordF_spN {f : Nat → Int32} {n p : Nat} (hp : p < n) : ∀ j, ordF f n j (spN (lvB f n) n j p) = p
  | 0 => rfl
  | j + 1 => by
    show ordF f n (j + 1) (nxb (lvB f n j) n (spN (lvB f n) n j p)) = p
    rw [ordF_s (spN_lt hp j)]; exact ordF_spN hp j
/-- a row that has been parted by bits b -/
theorem pt_ord {f o : Nat → Int32} {n j : Nat} (h : ∀ k, k < n → o (nxb (lvB f n j) n k) = nI (ordF f n j k)) : ∀ i, i < n → o i = nI (ordF f n (j + 1) i) := by
  intro i hi
  have h1 := nxi_spec (b := lvB f n j) hi
  have h2 := h _ h1.1
  rw [h1.2] at h2; exact h2
/-- parting, as the class does it: z at the front, ones laid aside -/
theorem pr_z {b : Nat → Bool} {g g' o : Nat → Int32} {k a : Nat} {x : Int32} (H : ∀ q, q < k → b q = false → g (q - fb_ct b q) = o q) (hb : b k = false) (ha : a = k - fb_ct b k) (e : g' = upd g a x) (ex : x = o k) : ∀ q, q < k + 1 → b q = false → g' (q - fb_ct b q) = o q := by
  intro q hq hbq
  rw [e]
  by_cases c : q = k
  · subst c; rw [← ha, pk_us, ex]
  · have h1 := ct_lt (p := fun i => !b i) (show q < k by omega) (by simp [hbq])
    rw [pk_un (by rw [ha, ct_nb, ct_nb]; omega)]; exact H q (by omega) hbq
theorem pr_zk {b : Nat → Bool} {g o : Nat → Int32} {k : Nat} (H : ∀ q, q < k → b q = false → g (q - fb_ct b q) = o q) (hb : b k = true) : ∀ q, q < k + 1 → b q = false → g (q - fb_ct b q) = o q := by
  intro q hq hbq
  by_cases c : q = k
  · subst c; rw [hb] at hbq; cases hbq
  · exact H q (by omega) hbq
theorem pr_o {b : Nat → Bool} {g g' o : Nat → Int32} {k a : Nat} {x : Int32} (H : ∀ q, q < k → b q = true → g (fb_ct b q) = o q) (hb : b k = true) (ha : a = fb_ct b k) (e : g' = upd g a x) (ex : x = o k) : ∀ q, q < k + 1 → b q = true → g' (fb_ct b q) = o q := by
  intro q hq hbq
  rw [e]
  by_cases c : q = k
  · subst c; rw [← ha, pk_us, ex]
  · have h1 := ct_lt (p := b) (show q < k by omega) hbq
    rw [pk_un (by omega)]; exact H q (by omega) hbq
theorem pr_ok {b : Nat → Bool} {g o : Nat → Int32} {k : Nat} (H : ∀ q, q < k → b q = true → g (fb_ct b q) = o q) (hb : b k = false) : ∀ q, q < k + 1 → b q = true → g (fb_ct b q) = o q := by
  intro q hq hbq
  by_cases c : q = k
  · subst c; rw [hb] at hbq; cases hbq
  · exact H q (by omega) hbq
theorem pr_3 {g g' o : Nat → Int32} {k a : Nat} {x : Int32} (H : ∀ q, k ≤ q → g q = o q) (e : g' = upd g a x) (ha : a ≤ k) : ∀ q, k + 1 ≤ q → g' q = o q := by
  intro q hq
  rw [e, pk_un (by omega)]; exact H q (by omega)
theorem pr_end {b : Nat → Bool} {g h g' o : Nat → Int32} {n a c : Nat} (H1 : ∀ q, q < n → b q = false → g (q - fb_ct b q) = o q) (H2 : ∀ q, q < n → b q = true → h (fb_ct b q) = o q) (ha : a + fb_ct b n = n) (hc : c = fb_ct b n) (e : g' = va_cpy h g 0 a c) : ∀ k, k < n → g' (nxb b n k) = o k := by
  intro k hk
  rw [e]
  cases hb : b k
  · rw [nxb_f hb]
    have h1 := ct_lt (p := fun i => !b i) hk (by simp [hb])
    have h2 := ct_nb b k
    have h3 := ct_nb b n
    unfold va_cpy; rw [if_neg (by omega)]; exact H1 k hk hb
  · rw [nxb_t hb]
    have h1 := ct_lt hk hb
    unfold va_cpy; rw [if_pos (by omega), show 0 + (n - fb_ct b n + fb_ct b k - a) = fb_ct b k by omega]; exact H2 k hk hb
/-- bits laid one behind another -/
theorem shl_1 : ∀ w, w < 2 → ∀ k, k < 64 → lN w <<< ((nI k).toInt64 &&& 63) = lN (w * 2 ^ k) := by decide +kernel
theorem lbit_or (x y : Int64) (i : Nat) : lbit (x ||| y) i = (lbit x i || lbit y i) := by
  unfold lbit; rw [Int64.toBitVec_or, BitVec.getLsbD_or]
theorem lbit_xor (x y : Int64) (i : Nat) : lbit (x ^^^ y) i = (lbit x i ^^ lbit y i) := by
  unfold lbit; rw [Int64.toBitVec_xor, BitVec.getLsbD_xor]
theorem lbit_shl {w k i : Nat} (hw : w < 2) (hk : k < 64) : lbit (lN w <<< ((nI k).toInt64 &&& 63)) i = (decide (w = 1) && decide (i = k)) := by
  have hp : 2 ^ k < 18446744073709551616 := Nat.lt_of_lt_of_le (Nat.pow_lt_pow_right (by decide) hk) (by decide)
  rw [shl_1 w hw k hk, lbit_uw]
  rcases (show w = 0 ∨ w = 1 by omega) with h | h
  · subst h; rw [uw_lN (by omega), Nat.zero_mul, Nat.zero_testBit]; rfl
  · subst h
    rw [Nat.one_mul, uw_lN hp, Nat.testBit_two_pow]
    by_cases e : k = i
    · subst e; simp
    · rw [decide_eq_false e, decide_eq_false (show ¬ i = k from fun q => e q.symm)]; rfl
/-- bits that fit the numbers -/
def LVL (lb : Nat → Int64) (f : Nat → Int32) (n : Nat) : Prop := ∀ j, j < 8 → ∀ i, i < 64 → lbit (lb j) i = (decide (i < n) && lvB f n j i)
theorem LVL.bit {lb : Nat → Int64} {f : Nat → Int32} {n j i : Nat} (h : LVL lb f n) (hj : j < 8) (hi : i < n) (hn : n ≤ 64) : lbit (lb j) i = lvB f n j i := by
  rw [h j hj i (by omega), decide_eq_true hi, Bool.true_and]
theorem LVL.hi {lb : Nat → Int64} {f : Nat → Int32} {n j i : Nat} (h : LVL lb f n) (hj : j < 8) (hi : n ≤ i) (h6 : i < 64) : lbit (lb j) i = false := by
  rw [h j hj i h6, decide_eq_false (by omega), Bool.false_and]
theorem LVL.nil {f : Nat → Int32} : LVL (fun _ => (0 : Int64)) f 0 := by
  intro j _ i hi
  rw [decide_eq_false (Nat.not_lt_zero i), Bool.false_and]
  exact (by decide +kernel : ∀ i, i < 64 → lbit (0 : Int64) i = false) i hi
end GFV
section GFV2
def boP (f o : Nat → Int32) (bb i : Nat) : Bool := (f (o i).toInt.toNat).toInt.toNat.testBit bb
theorem bo_0 {f o : Nat → Int32} {bb : Nat} : ∀ i, i < 64 → lbit (0 : Int64) i = (decide (i < 0) && boP f o bb i) := fun i hi => by
  rw [decide_eq_false (Nat.not_lt_zero i), Bool.false_and]
  exact (by decide +kernel : ∀ i, i < 64 → lbit (0 : Int64) i = false) i hi
theorem bo_at {f o : Nat → Int32} {bb k w1 w2 : Nat} (e1 : o k = nI w1) (e2 : f w1 = nI w2) (h1 : w1 < 2147483648) (h2 : w2 < 2147483648) : boP f o bb k = decide (w2 / 2 ^ bb % 2 = 1) := by
  unfold boP
  rw [e1, nI_toInt (by omega), show ((w1 : Int)).toNat = w1 from rfl, e2, nI_toInt (by omega), show ((w2 : Int)).toNat = w2 from rfl, Nat.testBit_eq_decide_div_mod_eq]
theorem bo_step {f o : Nat → Int32} {x y z : Int64} {k bb w1 w2 : Nat} (H : ∀ i, i < 64 → lbit x i = (decide (i < k) && boP f o bb i)) (ey : y = x ||| z) (ez : z = lN (w2 / 2 ^ bb % 2) <<< ((nI k).toInt64 &&& 63)) (e1 : o k = nI w1) (e2 : f w1 = nI w2) (hk : k < 64) (h1 : w1 < 2147483648) (h2 : w2 < 2147483648) : ∀ i, i < 64 → lbit y i = (decide (i < k + 1) && boP f o bb i) := by
  intro i hi
  rw [ey, lbit_or, H i hi, ez, lbit_shl (by omega) hk]
  by_cases c : i = k
  · subst c
    rw [bo_at e1 e2 h1 h2, decide_eq_false (Nat.lt_irrefl i), decide_eq_true (show i < i + 1 by omega)]; simp
  · rw [decide_eq_false c, Bool.and_false, Bool.or_false]
    by_cases d : i < k
    · rw [decide_eq_true d, decide_eq_true (show i < k + 1 by omega)]
    · rw [decide_eq_false d, decide_eq_false (show ¬ i < k + 1 by omega)]
theorem bo_lv {f o : Nat → Int32} {r : Int64} {n k : Nat} (H : ∀ i, i < 64 → lbit r i = (decide (i < n) && boP f o (7 - k) i)) (ho : ∀ i, i < n → o i = nI (ordF f n k i)) (hn : n ≤ 64) : ∀ i, i < 64 → lbit r i = (decide (i < n) && lvB f n k i) := by
  intro i hi
  rw [H i hi]
  by_cases c : i < n
  · have hl := ordF_lt (f := f) k c
    have e : boP f o (7 - k) i = lvB f n k i := by
      unfold boP lvB bitJ
      rw [ho i c, nI_toInt (by omega)]; rfl
    rw [e]
  · rw [decide_eq_false c, Bool.false_and, Bool.false_and]
theorem lb_lv {f : Nat → Int32} {r : Int64} {n k i : Nat} (H : ∀ i, i < 64 → lbit r i = (decide (i < n) && lvB f n k i)) (hn : n ≤ 64) (hi : i < n) : lbit r i = lvB f n k i := by
  rw [H i (by omega), decide_eq_true hi, Bool.true_and]
theorem rm_ord {f o o' : Nat → Int32} {r : Int64} {n k : Nat} (hp : ∀ q, q < n → o' (nxb (lbit r) n q) = o q) (hb : ∀ i, i < 64 → lbit r i = (decide (i < n) && lvB f n k i)) (ho : ∀ i, i < n → o i = nI (ordF f n k i)) (hn : n ≤ 64) : ∀ i, i < n → o' i = nI (ordF f n (k + 1) i) :=
  pt_ord (fun q hq => by
    rw [← nxb_cong hq (fun i hi => lb_lv hb hn hi), hp q hq, ho q hq])
theorem rm_1 {f : Nat → Int32} {g g' : Nat → Int64} {r : Int64} {n k : Nat} (H : ∀ q, q < k → ∀ i, i < 64 → lbit (g q) i = (decide (i < n) && lvB f n q i)) (e : g' = vp_updL g k r) (hb : ∀ i, i < 64 → lbit r i = (decide (i < n) && lvB f n k i)) : ∀ q, q < k + 1 → ∀ i, i < 64 → lbit (g' q) i = (decide (i < n) && lvB f n q i) := by
  intro q hq i hi
  by_cases c : q = k
  · rw [c, updL_s e]; exact hb i hi
  · rw [updL_o e c]; exact H q (by omega) i hi
theorem rm_2 {g g' lb : Nat → Int64} {r : Int64} {k : Nat} (H : ∀ q, k ≤ q → g q = lb q) (e : g' = vp_updL g k r) : ∀ q, k + 1 ≤ q → g' q = lb q := fun q hq => by
  rw [updL_o e (by omega)]; exact H q (by omega)
theorem rm_3 {g g' lb : Nat → Int64} {r z : Int64} {k t p : Nat} (ht : t = fb_sm (fun j => pcn (g j ^^^ lb j)) k) (H : ∀ q, k ≤ q → g q = lb q) (e : g' = vp_updL g k r) (ez : z = r ^^^ g k) (hp : p = pcn z) : t + p = fb_sm (fun j => pcn (g' j ^^^ lb j)) (k + 1) := by
  rw [fb_sm_succ, ht, hp, ez, updL_s e, H k (Nat.le_refl k)]
  congr 1
  exact fb_sm_cong (fun j hj => by show pcn (g j ^^^ lb j) = pcn (g' j ^^^ lb j); rw [updL_o e (by omega)])
theorem smc_le {F : Nat → Nat} {c : Nat} (h : ∀ j, F j ≤ c) : ∀ n, fb_sm F n ≤ n * c
  | 0 => Nat.zero_le _
  | n + 1 => by rw [fb_sm_succ, Nat.succ_mul]; exact Nat.add_le_add (smc_le h n) (h n)
theorem chp_le (g h : Nat → Int64) : fb_sm (fun j => pcn (g j ^^^ h j)) 8 ≤ 512 := Nat.le_trans (smc_le (c := 64) (fun j => pcn_le _) 8) (by decide)
/-- how many bits are another one then -/
def chF (f g : Nat → Int32) (n : Nat) : Nat := fb_sm (fun j => fb_ct (fun i => lvB g n j i ^^ lvB f n j i) n) 8
/-- parting, as the reference does it: P those with 0 -/
theorem pq_new0 {P : Nat → Bool} {g g' o : Nat → Int32} {k n : Nat} {x : Int32} (H : ∀ j, j < k → P j = true → g (fb_ct P j) = o j) (e : g' = upd g n x) (hn : n = fb_ct P k) (hx : x = o k) : ∀ j, j < k + 1 → P j = true → g' (fb_ct P j) = o j := by
  intro j hj hp
  rw [e]
  by_cases c : j = k
  · rw [c, ← hn, pk_us, hx]
  · have := ct_lt (p := P) (show j < k by omega) hp
    rw [pk_un (by omega)]; exact H j (by omega) hp
theorem pq_old0 {P : Nat → Bool} {g o : Nat → Int32} {k : Nat} (H : ∀ j, j < k → P j = true → g (fb_ct P j) = o j) (hp : P k = false) : ∀ j, j < k + 1 → P j = true → g (fb_ct P j) = o j := by
  intro j hj hq
  by_cases c : j = k
  · rw [c, hp] at hq; cases hq
  · exact H j (by omega) hq
theorem pq_keep {P : Nat → Bool} {g g' o : Nat → Int32} {m n : Nat} {x : Int32} (H : ∀ j, j < m → P j = true → g (fb_ct P j) = o j) (e : g' = upd g n x) (hn : fb_ct P m ≤ n) : ∀ j, j < m → P j = true → g' (fb_ct P j) = o j := by
  intro j hj hp
  have := ct_lt (p := P) hj hp
  rw [e, pk_un (by omega)]; exact H j hj hp
theorem pq_new1 {P : Nat → Bool} {g g' o : Nat → Int32} {k n m : Nat} {x : Int32} (H : ∀ j, j < k → P j = false → g (fb_ct P m + (j - fb_ct P j)) = o j) (e : g' = upd g n x) (hn : n + fb_ct P k = fb_ct P m + k) (hx : x = o k) : ∀ j, j < k + 1 → P j = false → g' (fb_ct P m + (j - fb_ct P j)) = o j := by
  intro j hj hp
  have hk := fb_ct_le P k
  rw [e]
  by_cases c : j = k
  · rw [c, show fb_ct P m + (k - fb_ct P k) = n by omega, pk_us, hx]
  · have h1 := ct_lt (p := fun i => !P i) (show j < k by omega) (by simp [hp])
    rw [← ct_nb, ← ct_nb] at h1
    rw [pk_un (by omega)]; exact H j (by omega) hp
theorem pq_old1 {P : Nat → Bool} {g o : Nat → Int32} {k m : Nat} (H : ∀ j, j < k → P j = false → g (fb_ct P m + (j - fb_ct P j)) = o j) (hp : P k = true) : ∀ j, j < k + 1 → P j = false → g (fb_ct P m + (j - fb_ct P j)) = o j := by
  intro j hj hq
  by_cases c : j = k
  · rw [c, hp] at hq; cases hq
  · exact H j (by omega) hq
theorem pq_end {P b : Nat → Bool} {g o : Nat → Int32} {n : Nat} (H0 : ∀ j, j < n → P j = true → g (fb_ct P j) = o j) (H1 : ∀ j, j < n → P j = false → g (fb_ct P n + (j - fb_ct P j)) = o j) (hb : ∀ j, j < n → b j = !P j) : ∀ k, k < n → g (nxb b n k) = o k := by
  intro k hk
  have e : ∀ m, m ≤ n → fb_ct b m = m - fb_ct P m := fun m hm => by
    rw [ct_nb]; exact fb_ct_cong (fun i hi => hb i (by omega))
  have h1 := fb_ct_le P n
  have h2 := fb_ct_le P k
  cases hp : P k
  · rw [nxb_t (by rw [hb k hk, hp]; rfl), e n (Nat.le_refl n), e k (by omega), show n - (n - fb_ct P n) + (k - fb_ct P k) = fb_ct P n + (k - fb_ct P k) by omega]
    exact H1 k hk hp
  · rw [nxb_f (by rw [hb k hk, hp]; rfl), e k (by omega), show k - (k - fb_ct P k) = fb_ct P k by omega]
    exact H0 k hk hp
end GFV2
section GFV3
theorem bn_tb (v k : Nat) : v / 2 ^ k % 2 = bN (v.testBit k) := by
  rw [Nat.testBit_eq_decide_div_mod_eq]
  unfold bN
  by_cases h : v / 2 ^ k % 2 = 1
  · rw [h]; rfl
  · rw [show v / 2 ^ k % 2 = 0 by omega]; rfl
theorem pb_t {f o : Nat → Int32} {bb k w1 w2 : Nat} (e1 : o k = nI w1) (e2 : f w1 = nI w2) (h1 : w1 < 2147483648) (h2 : w2 < 2147483648) (h : w2 / 2 ^ bb % 2 = 0) : (!boP f o bb k) = true := by
  rw [bo_at e1 e2 h1 h2, decide_eq_false (by omega)]; rfl
theorem pb_f {f o : Nat → Int32} {bb k w1 w2 : Nat} (e1 : o k = nI w1) (e2 : f w1 = nI w2) (h1 : w1 < 2147483648) (h2 : w2 < 2147483648) (h : w2 / 2 ^ bb % 2 ≠ 0) : (!boP f o bb k) = false := by
  rw [bo_at e1 e2 h1 h2, decide_eq_true (by omega)]; rfl
theorem ly_step {f o o' : Nat → Int32} {n k : Nat} (hp : ∀ q, q < n → o' (nxb (boP f o (7 - k)) n q) = o q) (ho : ∀ i, i < n → o i = nI (ordF f n k i)) (hn : n ≤ 64) : ∀ i, i < n → o' i = nI (ordF f n (k + 1) i) :=
  pt_ord (fun q hq => by
    have e : ∀ i, i < n → boP f o (7 - k) i = lvB f n k i := fun i hi => by
      have hl := ordF_lt (f := f) k hi
      unfold boP lvB bitJ
      rw [ho i hi, nI_toInt (by omega)]; rfl
    rw [← nxb_cong hq e, hp q hq, ho q hq])
theorem lvb_at {f : Nat → Int32} {n j k w : Nat} (e : f (ordF f n j k) = nI w) (h : w < 2147483648) : lvB f n j k = w.testBit (7 - j) := by
  unfold lvB bitJ; rw [e, nI_toInt (by omega)]; rfl
theorem kb_step {g g' : Nat → Int32} {B : Nat → Bool} {j k : Nat} {x : Int32} (H : ∀ i, i < k → g (64 * j + i) = nI (bN (B i))) (e : g' = upd g (64 * j + k) x) (hx : x = nI (bN (B k))) : ∀ i, i < k + 1 → g' (64 * j + i) = nI (bN (B i)) := by
  intro i hi
  rw [e]
  by_cases c : i = k
  · rw [c, pk_us, hx]
  · rw [pk_un (by omega)]; exact H i (by omega)
theorem kb_keep {g g' : Nat → Int32} {B : Nat → Nat → Bool} {j k n : Nat} {x : Int32} (H : ∀ q, q < j → ∀ i, i < n → g (64 * q + i) = nI (bN (B q i))) (e : g' = upd g (64 * j + k) x) (hn : n ≤ 64) : ∀ q, q < j → ∀ i, i < n → g' (64 * q + i) = nI (bN (B q i)) := by
  intro q hq i hi
  rw [e, pk_un (by omega)]; exact H q hq i hi
theorem kb_next {g : Nat → Int32} {B : Nat → Nat → Bool} {j k n : Nat} (H : ∀ q, q < j → ∀ i, i < n → g (64 * q + i) = nI (bN (B q i))) (h : ∀ i, i < k → g (64 * j + i) = nI (bN (B j i))) (hk : n ≤ k) : ∀ q, q < j + 1 → ∀ i, i < n → g (64 * q + i) = nI (bN (B q i)) := by
  intro q hq i hi
  by_cases c : q = j
  · rw [c]; exact h i (by omega)
  · exact H q (by omega) i hi
theorem ob_y {a b : Bool} (h : bN b ≠ bN a) : (a ^^ b) = true := by cases a <;> cases b <;> first | rfl | exact absurd rfl h
theorem ob_n {a b : Bool} (h : bN b = bN a) : (a ^^ b) = false := by cases a <;> cases b <;> first | rfl | exact absurd h (by decide)
theorem ob_1 {P : Nat → Bool} {k t u : Nat} (h : t = u + fb_ct P k) (hp : P k = true) : t + 1 = u + fb_ct P (k + 1) := by rw [fb_ct_succ, if_pos hp, h]; omega
theorem ob_0 {P : Nat → Bool} {k t u : Nat} (h : t = u + fb_ct P k) (hp : P k = false) : t = u + fb_ct P (k + 1) := by rw [fb_ct_succ, hp, h]; rfl
theorem spB_eq {lb : Nat → Int64} {f : Nat → Int32} {n p j : Nat} (h : LVL lb f n) (hp : p < n) (hn : n ≤ 64) (hj : j ≤ 8) : spN (fun j i => lbit (lb j) i) n j p = spN (lvB f n) n j p := (spN_cong hp j (fun q hq i hi => h.bit (by omega) hi hn)).1
end GFV3
section GFV4
theorem sp_ex {f o : Nat → Int32} {n j p : Nat} (ho : ∀ i, i < n → o i = nI (ordF f n j i)) (hp : p < n) : ∃ q, 0 ≤ q ∧ q < n ∧ o q = nI p :=
  ⟨spN (lvB f n) n j p, Nat.zero_le _, spN_lt hp j, by rw [ho _ (spN_lt hp j), ordF_spN hp j]⟩
theorem sp_at {f o : Nat → Int32} {n j k p : Nat} (ho : ∀ i, i < n → o i = nI (ordF f n j i)) (hk : k < n) (hn : n ≤ 64) (hp : p < n) (d : (o k).toInt = ((p : Nat) : Int)) : ordF f n j k = p := by
  have hl := ordF_lt (f := f) j hk
  rw [ho k hk, nI_toInt (by omega)] at d; omega
/-- runs -/
theorem lbit_zlu1 (x : Int64) (i : Nat) : lbit (zlu x 1) i = lbit x (i + 1) := by
  rw [lbit_uw, uw_zlu x (k := 1) (p := 2) (by decide +kernel) rfl, lbit_uw, show uw x / 2 = uw x / 2 ^ 1 from rfl, Nat.testBit_div_two_pow]
def rnF (b : Nat → Bool) (n : Nat) : Nat := if n = 0 then 0 else 1 + fb_ct (fun i => b i ^^ b (i + 1)) (n - 1)
theorem rn_c {x r z : Int64} {n : Nat} (hn : 0 < n) (h64 : n ≤ 64) (hr : ∀ i, i < 64 → lbit r i = decide (i < n - 1)) (ez : z = (x ^^^ zlu x 1) &&& r) : 1 + pcn z = rnF (lbit x) n := by
  unfold rnF; rw [if_neg (by omega), ez, pcn_low hr (by omega)]
  congr 1
  exact fb_ct_cong (fun i _ => by rw [lbit_xor, lbit_zlu1])
def rnR (b : Nat → Bool) (k : Nat) : Bool := decide (k = 0) || (b k ^^ b (k - 1))
theorem rn_eq (b : Nat → Bool) : ∀ n, fb_ct (rnR b) n = rnF b n
  | 0 => rfl
  | 1 => rfl
  | n + 2 => by
    have ih := rn_eq b (n + 1)
    have e : rnR b (n + 1) = (b n ^^ b (n + 1)) := by
      unfold rnR
      rw [decide_eq_false (show ¬ n + 1 = 0 by omega), Bool.false_or, show n + 1 - 1 = n from rfl, Bool.xor_comm]
    have h1 : rnF b (n + 2) = rnF b (n + 1) + (if (b n ^^ b (n + 1)) = true then 1 else 0) := by
      unfold rnF
      rw [if_neg (show ¬ n + 2 = 0 by omega), if_neg (show ¬ n + 1 = 0 by omega)]
      show 1 + fb_ct (fun i => b i ^^ b (i + 1)) (n + 1) = 1 + fb_ct (fun i => b i ^^ b (i + 1)) n + _
      rw [fb_ct_succ, Nat.add_assoc]
    rw [fb_ct_succ, ih, h1, e]
theorem rn_cong {b c : Nat → Bool} {n : Nat} (h : ∀ i, i < n → b i = c i) : rnF b n = rnF c n := by
  unfold rnF
  by_cases e : n = 0
  · rw [if_pos e, if_pos e]
  · rw [if_neg e, if_neg e]
    congr 1
    exact fb_ct_cong (fun i hi => by rw [h i (by omega), h (i + 1) (by omega)])
theorem rnF_le (b : Nat → Bool) (n : Nat) : rnF b n ≤ n := by
  unfold rnF
  by_cases e : n = 0
  · rw [if_pos e]; omega
  · rw [if_neg e]; have := fb_ct_le (fun i => b i ^^ b (i + 1)) (n - 1); omega
def rnS (f : Nat → Int32) (n k : Nat) : Nat := fb_sm (fun j => rnF (lvB f n j) n) k
theorem bo_lvB {f o : Nat → Int32} {n k i : Nat} (ho : ∀ i, i < n → o i = nI (ordF f n k i)) (hn : n ≤ 64) (hi : i < n) : boP f o (7 - k) i = lvB f n k i := by
  have hl := ordF_lt (f := f) k hi
  unfold boP lvB bitJ
  rw [ho i hi, nI_toInt (by omega)]; rfl
theorem rr_y {b : Nat → Bool} {k t : Nat} (h : t = fb_ct (rnR b) k) (hp : k = 0 ∨ bN (b k) ≠ bN (b (k - 1))) : t + 1 = fb_ct (rnR b) (k + 1) := ct_yes h (by
  unfold rnR
  rcases hp with e | e
  · rw [decide_eq_true e]; rfl
  · rw [ob_y (a := b k) (b := b (k - 1)) (fun q => e q.symm), Bool.or_true])
theorem rr_n {b : Nat → Bool} {k t : Nat} (h : t = fb_ct (rnR b) k) (h0 : k ≠ 0) (hp : bN (b k) = bN (b (k - 1))) : t = fb_ct (rnR b) (k + 1) := ct_no h (by
  unfold rnR
  rw [decide_eq_false h0, Bool.false_or]; exact ob_n hp.symm)
theorem bo_n {f o : Nat → Int32} {bb k w1 w2 : Nat} (e1 : o k = nI w1) (e2 : f w1 = nI w2) (h1 : w1 < 2147483648) (h2 : w2 < 2147483648) : w2 / 2 ^ bb % 2 = bN (boP f o bb k) := by
  rw [bo_at e1 e2 h1 h2]; unfold bN
  by_cases h : w2 / 2 ^ bb % 2 = 1
  · rw [h]; rfl
  · rw [show w2 / 2 ^ bb % 2 = 0 by omega]; rfl
theorem pt_conv {f o o' : Nat → Int32} {n bb k : Nat} (h : ∀ q, q < n → o' (nxb (boP f o bb) n q) = o q) (e : bb = k) : ∀ q, q < n → o' (nxb (boP f o k) n q) = o q := by subst e; exact h
theorem rn_conv {f o : Nat → Int32} {n bb k t : Nat} (h : t = rnF (boP f o bb) n) (e : bb = k) : t = rnF (boP f o k) n := by subst e; exact h
end GFV4
