section GRB
/-- how many numbers a block has -/
def bkN (c : Nat → Nat) (f w : Nat) : Nat := fb_sm c (f + w) - fb_sm c f
theorem bk_sub {c : Nat → Nat} {f w f' w' : Nat} (h : bkN c f w = 0) (h1 : f ≤ f') (h2 : f' + w' ≤ f + w) : bkN c f' w' = 0 := by
  have m1 := sm_mono c h1
  have m2 := sm_mono c h2
  have m3 := sm_mono c (show f' ≤ f' + w' by omega)
  unfold bkN at *
  omega
theorem p2s (k : Nat) : 2 ^ (k + 1) = 2 * 2 ^ k := by rw [Nat.pow_succ, Nat.mul_comm]
/-- visits, as the reference makes them: from a block of 2 to the k numbers from f on -/
def vsF (c : Nat → Nat) (a b : Nat) : Nat → Nat → Nat
  | 0, f => if b < f ∨ f + 1 ≤ a ∨ bkN c f 1 = 0 then 0 else 1
  | k + 1, f => if b < f ∨ f + 2 ^ (k + 1) ≤ a ∨ bkN c f (2 ^ (k + 1)) = 0 then 0 else if a ≤ f ∧ f + 2 ^ (k + 1) ≤ b + 1 then 1 else 1 + vsF c a b k f + vsF c a b k (f + 2 ^ k)
/-- a node of level L and head h is visited -/
def xB (c : Nat → Nat) (a b L h : Nat) : Bool := decide (h * 2 ^ (8 - L) ≤ b ∧ a < h * 2 ^ (8 - L) + 2 ^ (8 - L) ∧ bkN c (h * 2 ^ (8 - L)) (2 ^ (8 - L)) ≠ 0 ∧ (L = 0 ∨ ¬ (a ≤ h / 2 * (2 * 2 ^ (8 - L)) ∧ h / 2 * (2 * 2 ^ (8 - L)) + 2 * 2 ^ (8 - L) ≤ b + 1)))
def tX (X : Nat → Nat → Bool) : Nat → Nat → Nat → Nat
  | 0, L, h => bN (X L h)
  | k + 1, L, h => bN (X L h) + tX X k (L + 1) (2 * h) + tX X k (L + 1) (2 * h + 1)
theorem tX_s (X : Nat → Nat → Bool) : ∀ k L h, tX X k L h = fb_sm (fun d => fb_ct (fun i => X (L + d) (h * 2 ^ d + i)) (2 ^ d)) (k + 1)
  | 0, L, h => by
    show bN (X L h) = 0 + (0 + (if X (L + 0) (h * 2 ^ 0 + 0) = true then 1 else 0))
    rw [Nat.pow_zero, Nat.mul_one, Nat.add_zero, Nat.add_zero]
    unfold bN; omega
  | k + 1, L, h => by
    show bN (X L h) + tX X k (L + 1) (2 * h) + tX X k (L + 1) (2 * h + 1) = _
    rw [tX_s X k, tX_s X k, show k + 1 + 1 = 1 + (k + 1) by omega, fb_sm_split _ 1 (k + 1), Nat.add_assoc, ← fb_sm_add]
    have e0 : fb_sm (fun d => fb_ct (fun i => X (L + d) (h * 2 ^ d + i)) (2 ^ d)) 1 = bN (X L h) := by
      show 0 + (0 + (if X (L + 0) (h * 2 ^ 0 + 0) = true then 1 else 0)) = _
      rw [Nat.pow_zero, Nat.mul_one, Nat.add_zero, Nat.add_zero]
      unfold bN; omega
    rw [e0]
    congr 1
    refine fb_sm_cong (fun d _ => ?_)
    show _ = fb_ct (fun i => X (L + (1 + d)) (h * 2 ^ (1 + d) + i)) (2 ^ (1 + d))
    have ep : 2 ^ (1 + d) = 2 ^ d + 2 ^ d := by rw [Nat.add_comm 1 d, p2s]; omega
    rw [ep, fb_ct_split]
    have e1 : h * (2 ^ d + 2 ^ d) = 2 * h * 2 ^ d := by rw [← Nat.two_mul, ← Nat.mul_assoc, Nat.mul_comm h 2]
    have e2 : (2 * h + 1) * 2 ^ d = 2 * h * 2 ^ d + 2 ^ d := Nat.succ_mul _ _
    congr 1
    · refine fb_ct_cong (fun i _ => ?_)
      show X (L + 1 + d) (2 * h * 2 ^ d + i) = X (L + (1 + d)) (h * (2 ^ d + 2 ^ d) + i)
      rw [e1, Nat.add_assoc]
    · refine fb_ct_cong (fun i _ => ?_)
      show X (L + 1 + d) ((2 * h + 1) * 2 ^ d + i) = X (L + (1 + d)) (h * (2 ^ d + 2 ^ d) + (2 ^ d + i))
      rw [e1, e2, Nat.add_assoc L 1 d, Nat.add_assoc (2 * h * 2 ^ d)]
theorem par_blk (h w : Nat) : h / 2 * (2 * w) ≤ h * w ∧ h * w + w ≤ h / 2 * (2 * w) + 2 * w := by
  obtain ⟨q, hq⟩ : ∃ q, q = h / 2 := ⟨_, rfl⟩
  rw [← hq]
  have e : q * (2 * w) = 2 * (q * w) := Nat.mul_left_comm q 2 w
  rcases (show h = 2 * q ∨ h = 2 * q + 1 by omega) with c | c
  · have e2 : h * w = 2 * (q * w) := by rw [c]; exact Nat.mul_assoc 2 q w
    omega
  · have e2 : h * w = 2 * (q * w) + w := by rw [c, Nat.succ_mul, Nat.mul_assoc]
    omega
theorem xB_f {c : Nat → Nat} {a b L h k : Nat} (hk : L + k = 8) (hz : (L ≠ 0 ∧ a ≤ h / 2 * (2 * 2 ^ k) ∧ h / 2 * (2 * 2 ^ k) + 2 * 2 ^ k ≤ b + 1) ∨ b < h * 2 ^ k ∨ h * 2 ^ k + 2 ^ k ≤ a ∨ bkN c (h * 2 ^ k) (2 ^ k) = 0) : xB c a b L h = false := by
  unfold xB
  rw [show 8 - L = k by omega]
  refine decide_eq_false (fun q => ?_)
  obtain ⟨q1, q2, q3, q4⟩ := q
  rcases hz with ⟨z1, z2, z3⟩ | z | z | z
  · rcases q4 with q4 | q4
    · exact z1 q4
    · exact q4 ⟨z2, z3⟩
  · omega
  · omega
  · exact q3 z
theorem tX_z {c : Nat → Nat} {a b : Nat} : ∀ k L h, L + k = 8 → ((L ≠ 0 ∧ a ≤ h / 2 * (2 * 2 ^ k) ∧ h / 2 * (2 * 2 ^ k) + 2 * 2 ^ k ≤ b + 1) ∨ b < h * 2 ^ k ∨ h * 2 ^ k + 2 ^ k ≤ a ∨ bkN c (h * 2 ^ k) (2 ^ k) = 0) → tX (xB c a b) k L h = 0
  | 0, L, h, hk, hz => by
    show bN (xB c a b L h) = 0
    rw [xB_f hk hz]; rfl
  | k + 1, L, h, hk, hz => by
    show bN (xB c a b L h) + tX (xB c a b) k (L + 1) (2 * h) + tX (xB c a b) k (L + 1) (2 * h + 1) = 0
    have e1 := p2s k
    have e2 : 2 * h * 2 ^ k = h * 2 ^ (k + 1) := by rw [e1, Nat.mul_left_comm h 2, Nat.mul_assoc]
    have e3 : (2 * h + 1) * 2 ^ k = h * 2 ^ (k + 1) + 2 ^ k := by rw [Nat.succ_mul, e2]
    have e4 : 2 * h / 2 = h := by omega
    have e5 : (2 * h + 1) / 2 = h := by omega
    have hp := par_blk h (2 ^ (k + 1))
    have e6 : h * (2 * 2 ^ k) = h * 2 ^ (k + 1) := by rw [e1]
    rw [xB_f hk hz, tX_z k (L + 1) (2 * h) (by omega) ?_, tX_z k (L + 1) (2 * h + 1) (by omega) ?_]
    · rfl
    · rw [e5, e3, e6, ← e1]
      rcases hz with ⟨z1, z2, z3⟩ | z | z | z
      · left; exact ⟨by omega, by omega, by omega⟩
      · right; left; omega
      · right; right; left; omega
      · right; right; right; exact bk_sub z (by omega) (by omega)
    · rw [e4, e2, e6, ← e1]
      rcases hz with ⟨z1, z2, z3⟩ | z | z | z
      · left; exact ⟨by omega, by omega, by omega⟩
      · right; left; omega
      · right; right; left; omega
      · right; right; right; exact bk_sub z (by omega) (by omega)
theorem xB_t {c : Nat → Nat} {a b L h k : Nat} (hk : L + k = 8) (h1 : h * 2 ^ k ≤ b) (h2 : a < h * 2 ^ k + 2 ^ k) (h3 : bkN c (h * 2 ^ k) (2 ^ k) ≠ 0) (h4 : ¬ (L ≠ 0 ∧ a ≤ h / 2 * (2 * 2 ^ k) ∧ h / 2 * (2 * 2 ^ k) + 2 * 2 ^ k ≤ b + 1)) : xB c a b L h = true := by
  unfold xB
  rw [show 8 - L = k by omega]
  refine decide_eq_true ⟨h1, h2, h3, ?_⟩
  by_cases z : L = 0
  · exact Or.inl z
  · exact Or.inr (fun q => h4 ⟨z, q.1, q.2⟩)
theorem vs_tX {c : Nat → Nat} {a b : Nat} : ∀ k L h, L + k = 8 → ¬ (L ≠ 0 ∧ a ≤ h / 2 * (2 * 2 ^ k) ∧ h / 2 * (2 * 2 ^ k) + 2 * 2 ^ k ≤ b + 1) → vsF c a b k (h * 2 ^ k) = tX (xB c a b) k L h
  | 0, L, h, hk, hn => by
    show (if b < h * 2 ^ 0 ∨ h * 2 ^ 0 + 1 ≤ a ∨ bkN c (h * 2 ^ 0) 1 = 0 then 0 else 1) = bN (xB c a b L h)
    by_cases z : b < h * 2 ^ 0 ∨ h * 2 ^ 0 + 1 ≤ a ∨ bkN c (h * 2 ^ 0) 1 = 0
    · rw [if_pos z, xB_f (k := 0) hk (Or.inr z)]; rfl
    · rw [if_neg z, xB_t (k := 0) hk (by omega) (by have := Nat.pow_zero 2; omega) (fun q => z (Or.inr (Or.inr q))) hn]; rfl
  | k + 1, L, h, hk, hn => by
    show (if b < h * 2 ^ (k + 1) ∨ h * 2 ^ (k + 1) + 2 ^ (k + 1) ≤ a ∨ bkN c (h * 2 ^ (k + 1)) (2 ^ (k + 1)) = 0 then 0 else if a ≤ h * 2 ^ (k + 1) ∧ h * 2 ^ (k + 1) + 2 ^ (k + 1) ≤ b + 1 then 1 else 1 + vsF c a b k (h * 2 ^ (k + 1)) + vsF c a b k (h * 2 ^ (k + 1) + 2 ^ k)) = _
    by_cases z : b < h * 2 ^ (k + 1) ∨ h * 2 ^ (k + 1) + 2 ^ (k + 1) ≤ a ∨ bkN c (h * 2 ^ (k + 1)) (2 ^ (k + 1)) = 0
    · rw [if_pos z, tX_z (k + 1) L h hk (Or.inr z)]
    · rw [if_neg z]
      show _ = bN (xB c a b L h) + tX (xB c a b) k (L + 1) (2 * h) + tX (xB c a b) k (L + 1) (2 * h + 1)
      rw [xB_t hk (by omega) (by omega) (fun q => z (Or.inr (Or.inr q))) hn]
      have e1 := p2s k
      have e2 : 2 * h * 2 ^ k = h * 2 ^ (k + 1) := by rw [e1, Nat.mul_left_comm h 2, Nat.mul_assoc]
      have e3 : (2 * h + 1) * 2 ^ k = h * 2 ^ (k + 1) + 2 ^ k := by rw [Nat.succ_mul, e2]
      have e4 : 2 * h / 2 = h := by omega
      have e5 : (2 * h + 1) / 2 = h := by omega
      have e6 : h * (2 * 2 ^ k) = h * 2 ^ (k + 1) := by rw [e1]
      by_cases y : a ≤ h * 2 ^ (k + 1) ∧ h * 2 ^ (k + 1) + 2 ^ (k + 1) ≤ b + 1
      · rw [if_pos y, tX_z k (L + 1) (2 * h) (by omega) (Or.inl ⟨by omega, by rw [e4, e6]; exact y.1, by rw [e4, e6, ← e1]; exact y.2⟩), tX_z k (L + 1) (2 * h + 1) (by omega) (Or.inl ⟨by omega, by rw [e5, e6]; exact y.1, by rw [e5, e6, ← e1]; exact y.2⟩)]
        rfl
      · rw [if_neg y, ← vs_tX k (L + 1) (2 * h) (by omega) (by rw [e4, e6, ← e1]; exact fun q => y q.2), ← vs_tX k (L + 1) (2 * h + 1) (by omega) (by rw [e5, e6, ← e1]; exact fun q => y q.2), e2, e3]
        rfl
/-- visits, as the class counts them -/
def vsG (c : Nat → Nat) (a b : Nat) : Nat → Nat := fun d => fb_ct (xB c a b d) (2 ^ d)
theorem vs_eq (c : Nat → Nat) (a b : Nat) : vsF c a b 8 0 = fb_sm (vsG c a b) 9 := by
  have h := vs_tX (c := c) (a := a) (b := b) 8 0 0 rfl (fun q => q.1 rfl)
  rw [Nat.zero_mul] at h
  rw [h, tX_s]
  refine fb_sm_cong (fun d _ => ?_)
  refine fb_ct_cong (fun i _ => ?_)
  show xB c a b (0 + d) (0 * 2 ^ d + i) = xB c a b d i
  rw [Nat.zero_mul, Nat.zero_add, Nat.zero_add]
theorem pow9 : ∀ d, d < 9 → 2 ^ d ≤ 256 := by decide
theorem sm9_le {G : Nat → Nat} (h : ∀ d, d < 9 → G d ≤ 2 ^ d) : fb_sm G 9 ≤ 2304 := fb_sm_bound (c := 256) (n := 9) (fun d hd => Nat.le_trans (h d hd) (pow9 d hd))
theorem vsG_le (c : Nat → Nat) (a b : Nat) : fb_sm (vsG c a b) 9 ≤ 2304 := sm9_le (fun d _ => fb_ct_le _ _)
theorem vsF_le (c : Nat → Nat) (a b : Nat) : ∀ k f, vsF c a b k f ≤ 2 * 2 ^ k - 1
  | 0, f => by
    show (if b < f ∨ f + 1 ≤ a ∨ bkN c f 1 = 0 then 0 else 1) ≤ _
    split <;> decide
  | k + 1, f => by
    show (if b < f ∨ f + 2 ^ (k + 1) ≤ a ∨ bkN c f (2 ^ (k + 1)) = 0 then 0 else if a ≤ f ∧ f + 2 ^ (k + 1) ≤ b + 1 then 1 else 1 + vsF c a b k f + vsF c a b k (f + 2 ^ k)) ≤ _
    have h1 := vsF_le c a b k f
    have h2 := vsF_le c a b k (f + 2 ^ k)
    have e := p2s k
    have hp := Nat.two_pow_pos k
    split
    · omega
    · split <;> omega
theorem vs_n {c : Nat → Nat} {a b f n w : Nat} (k : Nat) (hw : w = 2 ^ k) (h : b < f ∨ f + w - 1 < a ∨ (n = 0 ∧ n + fb_sm c f = fb_sm c (f + w - 1 + 1))) : 0 = vsF c a b k f := by
  subst hw
  have hp := Nat.two_pow_pos k
  have hz : b < f ∨ f + 2 ^ k ≤ a ∨ bkN c f (2 ^ k) = 0 := by
    rcases h with h | h | ⟨h, h2⟩
    · exact Or.inl h
    · exact Or.inr (Or.inl (by omega))
    · refine Or.inr (Or.inr ?_)
      rw [show f + 2 ^ k - 1 + 1 = f + 2 ^ k by omega] at h2
      unfold bkN; omega
  cases k with
  | zero => show 0 = (if b < f ∨ f + 1 ≤ a ∨ bkN c f 1 = 0 then 0 else 1); rw [if_pos hz]
  | succ k => show 0 = (if b < f ∨ f + 2 ^ (k + 1) ≤ a ∨ bkN c f (2 ^ (k + 1)) = 0 then 0 else _); rw [if_pos hz]
theorem vs_i {c : Nat → Nat} {a b f n w : Nat} (k : Nat) (hw : w = 2 ^ k) (h1 : f ≤ b) (h2 : a ≤ f + w - 1) (h3 : n ≠ 0) (h4 : n + fb_sm c f = fb_sm c (f + w - 1 + 1)) (h5 : a ≤ f) (h6 : f + w - 1 ≤ b) : 1 = vsF c a b k f := by
  subst hw
  have hp := Nat.two_pow_pos k
  have hz : ¬ (b < f ∨ f + 2 ^ k ≤ a ∨ bkN c f (2 ^ k) = 0) := by
    rw [show f + 2 ^ k - 1 + 1 = f + 2 ^ k by omega] at h4
    unfold bkN; omega
  cases k with
  | zero => show 1 = (if b < f ∨ f + 1 ≤ a ∨ bkN c f 1 = 0 then 0 else 1); rw [if_neg hz]
  | succ k => show 1 = (if b < f ∨ f + 2 ^ (k + 1) ≤ a ∨ bkN c f (2 ^ (k + 1)) = 0 then 0 else if a ≤ f ∧ f + 2 ^ (k + 1) ≤ b + 1 then 1 else _); rw [if_neg hz, if_pos (by omega)]
theorem vs_g {c : Nat → Nat} {a b f n w v t u : Nat} (k : Nat) (hw : w = 2 ^ (k + 1)) (hv : v = 2 ^ k) (h1 : f ≤ b) (h2 : a ≤ f + w - 1) (h3 : n ≠ 0) (h4 : n + fb_sm c f = fb_sm c (f + w - 1 + 1)) (h5 : f < a ∨ b < f + w - 1) (ht : t = vsF c a b k f) (hu : u = vsF c a b k (f + v)) : 1 + t + u = vsF c a b (k + 1) f := by
  subst hw hv
  have hp := Nat.two_pow_pos (k + 1)
  have hz : ¬ (b < f ∨ f + 2 ^ (k + 1) ≤ a ∨ bkN c f (2 ^ (k + 1)) = 0) := by
    rw [show f + 2 ^ (k + 1) - 1 + 1 = f + 2 ^ (k + 1) by omega] at h4
    unfold bkN; omega
  show _ = (if b < f ∨ f + 2 ^ (k + 1) ≤ a ∨ bkN c f (2 ^ (k + 1)) = 0 then 0 else if a ≤ f ∧ f + 2 ^ (k + 1) ≤ b + 1 then 1 else 1 + vsF c a b k f + vsF c a b k (f + 2 ^ k))
  rw [if_neg hz, if_neg (by omega), ht, hu]
/-- the class's loops -/
theorem shl_N (w : Nat) {s : Nat} (hs : s < 31) : nI w <<< (nI s &&& 31) = nI (w * 2 ^ s) := by
  apply Int32.toBitVec_inj.mp
  rw [Int32.toBitVec_shiftLeft]
  have e : ((nI s &&& 31).toBitVec.smod 32).toNat = s := (by decide +kernel : ∀ n, n < 32 → ((nI n &&& 31).toBitVec.smod 32).toNat = n) s (by omega)
  show BitVec.ofNat 32 w <<< ((nI s &&& 31).toBitVec.smod 32).toNat = BitVec.ofNat 32 (w * 2 ^ s)
  rw [e]
  apply BitVec.eq_of_toNat_eq
  rw [BitVec.toNat_shiftLeft, BitVec.toNat_ofNat, BitVec.toNat_ofNat, Nat.shiftLeft_eq, Nat.mul_mod (w % 2 ^ 32), Nat.mod_mod, ← Nat.mul_mod]
theorem xB_lo {c : Nat → Nat} {a b j : Nat} (hj : j ≤ 8) : fb_ct (xB c a b j) (a / 2 ^ (8 - j)) = 0 := fb_ct_zero.mpr (fun h hh => by
  refine xB_f (k := 8 - j) (by omega) (Or.inr (Or.inr (Or.inl ?_)))
  have q := Nat.div_mul_le_self a (2 ^ (8 - j))
  have q2 : (h + 1) * 2 ^ (8 - j) ≤ a / 2 ^ (8 - j) * 2 ^ (8 - j) := Nat.mul_le_mul_right _ hh
  rw [Nat.succ_mul] at q2; omega)
theorem xB_hi {c : Nat → Nat} {a b j : Nat} (hj : j ≤ 8) (hb : b ≤ 255) : fb_ct (xB c a b j) (2 ^ j) = fb_ct (xB c a b j) (b / 2 ^ (8 - j) + 1) := by
  have hp : 2 ^ j * 2 ^ (8 - j) = 256 := by rw [← Nat.pow_add, show j + (8 - j) = 8 by omega]
  have hlt : b / 2 ^ (8 - j) < 2 ^ j := Nat.div_lt_of_lt_mul (by rw [Nat.mul_comm, hp]; omega)
  refine ct_cut (by omega) (fun _ _ => rfl) (fun h h1 _ => xB_f (k := 8 - j) (by omega) (Or.inr (Or.inl ?_)))
  have q := Nat.lt_div_mul_add (a := b) (Nat.two_pow_pos (8 - j))
  have q2 : (b / 2 ^ (8 - j) + 1) * 2 ^ (8 - j) ≤ h * 2 ^ (8 - j) := Nat.mul_le_mul_right _ h1
  rw [Nat.succ_mul] at q2; omega
/-- a head that the class asks for: it meets the band -/
theorem hd_meet {a b h s : Nat} (h1 : a / 2 ^ s ≤ h) (h2 : h ≤ b / 2 ^ s) : h * 2 ^ s ≤ b ∧ a < h * 2 ^ s + 2 ^ s := by
  have q1 := Nat.div_mul_le_self b (2 ^ s)
  have q2 : h * 2 ^ s ≤ b / 2 ^ s * 2 ^ s := Nat.mul_le_mul_right _ h2
  have q3 := Nat.lt_div_mul_add (a := a) (Nat.two_pow_pos s)
  have q4 : a / 2 ^ s * 2 ^ s ≤ h * 2 ^ s := Nat.mul_le_mul_right _ h1
  omega
theorem vc_y {c : Nat → Nat} {a b j h t u x : Nat} {z : Int32} (ht : t = u + fb_ct (xB c a b j) h) (hj : j ≤ 8) (h1 : a / 2 ^ (8 - j) ≤ h) (h2 : h ≤ b / 2 ^ (8 - j)) (hx : z = nI x) (hxv : x = bkN c (h * 2 ^ (8 - j)) (2 ^ (8 - j))) (hx6 : x ≤ 64) (d : z.toInt > 0) (hr : j = 0 ∨ ¬ (a ≤ h / 2 * 2 ^ (8 - j + 1) ∧ h / 2 * 2 ^ (8 - j + 1) + 2 ^ (8 - j + 1) ≤ b + 1)) : t + 1 = u + fb_ct (xB c a b j) (h + 1) := by
  have m := hd_meet h1 h2
  refine ob_1 ht (xB_t (k := 8 - j) (by omega) m.1 m.2 ?_ ?_)
  · rw [hx, nI_toInt (by omega)] at d
    rw [← hxv]; omega
  · rw [p2s] at hr
    intro q
    rcases hr with hr | hr
    · exact q.1 hr
    · exact hr q.2
theorem vc_n0 {c : Nat → Nat} {a b j h t u x : Nat} {z : Int32} (ht : t = u + fb_ct (xB c a b j) h) (hj : j ≤ 8) (hx : z = nI x) (hxv : x = bkN c (h * 2 ^ (8 - j)) (2 ^ (8 - j))) (hx6 : x ≤ 64) (d : z.toInt ≤ 0) : t = u + fb_ct (xB c a b j) (h + 1) := by
  refine ob_0 ht (xB_f (k := 8 - j) (by omega) (Or.inr (Or.inr (Or.inr ?_))))
  rw [hx, nI_toInt (by omega)] at d
  rw [← hxv]; omega
theorem vc_nw {c : Nat → Nat} {a b j h t u : Nat} (ht : t = u + fb_ct (xB c a b j) h) (hj : j ≤ 8) (h0 : j ≠ 0) (hr : a ≤ h / 2 * 2 ^ (8 - j + 1) ∧ h / 2 * 2 ^ (8 - j + 1) + 2 ^ (8 - j + 1) ≤ b + 1) : t = u + fb_ct (xB c a b j) (h + 1) := by
  rw [p2s] at hr
  exact ob_0 ht (xB_f (k := 8 - j) (by omega) (Or.inl ⟨h0, hr.1, hr.2⟩))
theorem vc_end {c : Nat → Nat} {a b j h t : Nat} (ht : t = fb_sm (vsG c a b) j + fb_ct (xB c a b j) h) (hj : j ≤ 8) (hb : b ≤ 255) (h1 : h ≤ b / 2 ^ (8 - j) + 1) (h2 : b / 2 ^ (8 - j) < h) : t = fb_sm (vsG c a b) (j + 1) := by
  rw [fb_sm_succ, ht, show h = b / 2 ^ (8 - j) + 1 by omega, ← xB_hi hj hb]; rfl
/-- heads lie below 2 to the level -/
theorem hd_lt {b j h : Nat} (hj : j ≤ 8) (hb : b ≤ 255) (h2 : h ≤ b / 2 ^ (8 - j)) : h < 2 ^ j ∧ h * 2 ^ (8 - j) + 2 ^ (8 - j) ≤ 256 := by
  have hp : 2 ^ j * 2 ^ (8 - j) = 256 := by rw [← Nat.pow_add, show j + (8 - j) = 8 by omega]
  have hlt : b / 2 ^ (8 - j) < 2 ^ j := Nat.div_lt_of_lt_mul (by rw [Nat.mul_comm, hp]; omega)
  have q2 : (h + 1) * 2 ^ (8 - j) ≤ 2 ^ j * 2 ^ (8 - j) := Nat.mul_le_mul_right _ (by omega)
  rw [Nat.succ_mul, hp] at q2
  exact ⟨by omega, q2⟩
theorem hd_par {h j : Nat} (hj : j ≠ 0) (hh : h * 2 ^ (8 - j) + 2 ^ (8 - j) ≤ 256) : h / 2 * 2 ^ (8 - j + 1) + 2 ^ (8 - j + 1) ≤ 512 := by
  have q := par_blk h (2 ^ (8 - j))
  rw [p2s]; omega
theorem bk_le {f : Nat → Int32} (hf : RB 0 255 f) {a b x w : Nat} (hab : a ≤ b) (h : x + w ≤ 256) : bkN (cnF f a b) x w ≤ b - a := by
  have h1 := cnF_sum hf hab
  have h2 := sm_mono (cnF f a b) h
  unfold bkN; omega
theorem bk_64 {c : Nat → Nat} {x w : Nat} (hs : fb_sm c 256 ≤ 64) (h : x + w ≤ 256) : bkN c x w ≤ 64 := by
  have h2 := sm_mono c h
  unfold bkN; omega
theorem nd_bk {g f : Nat → Int32} (hf : RB 0 255 f) {a b : Nat} (H : ∀ lv, lv ≤ 8 → ∀ h, h < 2 ^ lv → g (2 ^ lv + h) = nI (cnl f lv h a b)) : ∀ lv, lv ≤ 8 → ∀ h, h < 2 ^ lv → g (2 ^ lv + h) = nI (bkN (cnF f a b) (h * 2 ^ (8 - lv)) (2 ^ (8 - lv))) := by
  intro lv hl h hh
  have hp : 2 ^ lv * 2 ^ (8 - lv) = 256 := by rw [← Nat.pow_add, show lv + (8 - lv) = 8 by omega]
  have q2 : (h + 1) * 2 ^ (8 - lv) ≤ 2 ^ lv * 2 ^ (8 - lv) := Nat.mul_le_mul_right _ hh
  rw [hp] at q2
  have e := cnl_blk hf (p := lv) (h := h) (a := a) (w := 2 ^ (8 - lv)) rfl q2 b
  rw [Nat.succ_mul] at e
  rw [H lv hl h hh]
  unfold bkN
  congr 1; omega
/-- nodes that have m numbers -/
def ndP (c : Nat → Nat) (m lv h : Nat) : Bool := decide (m ≤ bkN c (h * 2 ^ (8 - lv)) (2 ^ (8 - lv)))
def ndG (c : Nat → Nat) (m : Nat) : Nat → Nat := fun lv => fb_ct (ndP c m lv) (2 ^ lv)
def ndQ (c d : Nat → Nat) (lv h : Nat) : Bool := decide (1 ≤ bkN c (h * 2 ^ (8 - lv)) (2 ^ (8 - lv)) ∧ 1 ≤ bkN d (h * 2 ^ (8 - lv)) (2 ^ (8 - lv)))
def ndH (c d : Nat → Nat) : Nat → Nat := fun lv => fb_ct (ndQ c d lv) (2 ^ lv)
theorem ndG_le (c : Nat → Nat) (m : Nat) : fb_sm (ndG c m) 9 ≤ 2304 := sm9_le (fun d _ => fb_ct_le _ _)
theorem ndH_le (c d : Nat → Nat) : fb_sm (ndH c d) 9 ≤ 2304 := sm9_le (fun d _ => fb_ct_le _ _)
theorem nodes_s {Q : Nat → Bool} (h0 : Q 0 = false) : ∀ n, fb_ct Q (2 ^ n) = fb_sm (fun lv => fb_ct (fun h => Q (2 ^ lv + h)) (2 ^ lv)) n
  | 0 => by
    show 0 + (if Q 0 = true then 1 else 0) = 0
    rw [h0]; rfl
  | n + 1 => by
    rw [p2s, Nat.two_mul, fb_ct_split, nodes_s h0 n, fb_sm_succ]
def nwQ (g : Nat → Int32) (m : Nat) : Nat → Bool := fun k => decide (1 ≤ k ∧ (m : Int) ≤ (g k).toInt)
def nsQ (g h : Nat → Int32) : Nat → Bool := fun k => decide (1 ≤ k ∧ 0 < (g k).toInt ∧ 0 < (h k).toInt)
theorem nw_0 {g : Nat → Int32} {m : Nat} : fb_ct (nwQ g m) 1 = 0 := fb_ct_zero.mpr (fun k hk => decide_eq_false (by omega))
theorem ns_0 {g h : Nat → Int32} : fb_ct (nsQ g h) 1 = 0 := fb_ct_zero.mpr (fun k hk => decide_eq_false (by omega))
theorem nw_end {g : Nat → Int32} {c : Nat → Nat} {m t k : Nat} (H : ∀ lv, lv ≤ 8 → ∀ h, h < 2 ^ lv → g (2 ^ lv + h) = nI (bkN c (h * 2 ^ (8 - lv)) (2 ^ (8 - lv)))) (h64 : fb_sm c 256 ≤ 64) (ht : t = fb_ct (nwQ g m) k) (hk : k = 512) : t = fb_sm (ndG c m) 9 := by
  rw [ht, hk, show (512 : Nat) = 2 ^ 9 from rfl, nodes_s (decide_eq_false (by omega))]
  refine fb_sm_cong (fun lv hlv => ?_)
  refine fb_ct_cong (fun h hh => ?_)
  have hp : 2 ^ lv * 2 ^ (8 - lv) = 256 := by rw [← Nat.pow_add, show lv + (8 - lv) = 8 by omega]
  have q2 : (h + 1) * 2 ^ (8 - lv) ≤ 2 ^ lv * 2 ^ (8 - lv) := Nat.mul_le_mul_right _ hh
  rw [Nat.succ_mul, hp] at q2
  have q3 := sm_mono c q2
  have h1 := Nat.two_pow_pos lv
  show decide (1 ≤ 2 ^ lv + h ∧ (m : Int) ≤ (g (2 ^ lv + h)).toInt) = decide (m ≤ bkN c (h * 2 ^ (8 - lv)) (2 ^ (8 - lv)))
  rw [H lv (by omega) h hh, nI_toInt (by unfold bkN; omega)]
  by_cases d : m ≤ bkN c (h * 2 ^ (8 - lv)) (2 ^ (8 - lv))
  · rw [decide_eq_true d, decide_eq_true ⟨by omega, by omega⟩]
  · rw [decide_eq_false d, decide_eq_false (fun q => d (by omega))]
theorem ns_end {g f : Nat → Int32} {c e : Nat → Nat} {t k : Nat} (H : ∀ lv, lv ≤ 8 → ∀ h, h < 2 ^ lv → g (2 ^ lv + h) = nI (bkN c (h * 2 ^ (8 - lv)) (2 ^ (8 - lv)))) (H2 : ∀ lv, lv ≤ 8 → ∀ h, h < 2 ^ lv → f (2 ^ lv + h) = nI (bkN e (h * 2 ^ (8 - lv)) (2 ^ (8 - lv)))) (h64 : fb_sm c 256 ≤ 64) (h65 : fb_sm e 256 ≤ 64) (ht : t = fb_ct (nsQ g f) k) (hk : k = 512) : t = fb_sm (ndH c e) 9 := by
  rw [ht, hk, show (512 : Nat) = 2 ^ 9 from rfl, nodes_s (decide_eq_false (by omega))]
  refine fb_sm_cong (fun lv hlv => ?_)
  refine fb_ct_cong (fun h hh => ?_)
  have hp : 2 ^ lv * 2 ^ (8 - lv) = 256 := by rw [← Nat.pow_add, show lv + (8 - lv) = 8 by omega]
  have q2 : (h + 1) * 2 ^ (8 - lv) ≤ 2 ^ lv * 2 ^ (8 - lv) := Nat.mul_le_mul_right _ hh
  rw [Nat.succ_mul, hp] at q2
  have q3 := sm_mono c q2
  have q4 := sm_mono e q2
  have h1 := Nat.two_pow_pos lv
  show decide (1 ≤ 2 ^ lv + h ∧ 0 < (g (2 ^ lv + h)).toInt ∧ 0 < (f (2 ^ lv + h)).toInt) = decide (1 ≤ bkN c (h * 2 ^ (8 - lv)) (2 ^ (8 - lv)) ∧ 1 ≤ bkN e (h * 2 ^ (8 - lv)) (2 ^ (8 - lv)))
  rw [H lv (by omega) h hh, H2 lv (by omega) h hh, nI_toInt (by unfold bkN; omega), nI_toInt (by unfold bkN; omega)]
  by_cases d : 1 ≤ bkN c (h * 2 ^ (8 - lv)) (2 ^ (8 - lv)) ∧ 1 ≤ bkN e (h * 2 ^ (8 - lv)) (2 ^ (8 - lv))
  · rw [decide_eq_true d, decide_eq_true ⟨by omega, by omega, by omega⟩]
  · rw [decide_eq_false d, decide_eq_false (fun q => d ⟨by omega, by omega⟩)]
/-- the reference's loops: blocks of w from 0 on -/
theorem blk_v {c : Nat → Nat} {f w n lv : Nat} (hw : w = 2 ^ (8 - lv)) (hf : f % w = 0) (h : n + fb_sm c f = fb_sm c (f + w - 1 + 1)) : bkN c (f / w * 2 ^ (8 - lv)) (2 ^ (8 - lv)) = n := by
  subst hw
  have hp := Nat.two_pow_pos (8 - lv)
  rw [Nat.div_mul_cancel (Nat.dvd_of_mod_eq_zero hf)]
  rw [show f + 2 ^ (8 - lv) - 1 + 1 = f + 2 ^ (8 - lv) by omega] at h
  unfold bkN; omega
theorem nr_t {c : Nat → Nat} {f w n m lv : Nat} (hw : w = 2 ^ (8 - lv)) (hf : f % w = 0) (h : n + fb_sm c f = fb_sm c (f + w - 1 + 1)) (hm : m ≤ n) : ndP c m lv (f / w) = true := by
  refine decide_eq_true ?_
  rw [blk_v hw hf h]; exact hm
theorem nr_f {c : Nat → Nat} {f w n m lv : Nat} (hw : w = 2 ^ (8 - lv)) (hf : f % w = 0) (h : n + fb_sm c f = fb_sm c (f + w - 1 + 1)) (hm : n < m) : ndP c m lv (f / w) = false := by
  refine decide_eq_false ?_
  rw [blk_v hw hf h]; omega
theorem nr2_t {c d : Nat → Nat} {f w n m lv : Nat} (hw : w = 2 ^ (8 - lv)) (hf : f % w = 0) (h : n + fb_sm c f = fb_sm c (f + w - 1 + 1)) (h2 : m + fb_sm d f = fb_sm d (f + w - 1 + 1)) (hn : 1 ≤ n) (hm : 1 ≤ m) : ndQ c d lv (f / w) = true := by
  refine decide_eq_true ?_
  rw [blk_v hw hf h, blk_v hw hf h2]; exact ⟨hn, hm⟩
theorem nr2_f {c d : Nat → Nat} {f w n lv : Nat} (hw : w = 2 ^ (8 - lv)) (hf : f % w = 0) (h : n + fb_sm c f = fb_sm c (f + w - 1 + 1)) (hn : n < 1) : ndQ c d lv (f / w) = false := by
  refine decide_eq_false ?_
  rw [blk_v hw hf h]; omega
theorem nr2_g {c d : Nat → Nat} {f w n lv : Nat} (hw : w = 2 ^ (8 - lv)) (hf : f % w = 0) (h : n + fb_sm d f = fb_sm d (f + w - 1 + 1)) (hn : n < 1) : ndQ c d lv (f / w) = false := by
  refine decide_eq_false ?_
  rw [blk_v hw hf h]; omega
theorem nr_e0 {G : Nat → Nat} {P : Nat → Bool} {n : Nat} (hn : n = 0) : 0 = fb_sm G 0 + fb_ct P n := by subst hn; rfl
theorem nr_e {G : Nat → Nat} {P P' : Nat → Bool} {t L n m : Nat} (ht : t = fb_sm G L + fb_ct P n) (hn : n = 2 ^ L) (hG : G L = fb_ct P (2 ^ L)) (hm : m = 0) : t = fb_sm G (L + 1) + fb_ct P' m := by
  subst hm
  rw [fb_sm_succ, hG, ht, hn]; rfl
theorem nr_z {G : Nat → Nat} {P : Nat → Bool} {t L n : Nat} (ht : t = fb_sm G L + fb_ct P n) (hn : n = 2 ^ L) (hG : G L = fb_ct P (2 ^ L)) : t = fb_sm G (L + 1) := by
  rw [fb_sm_succ, hG, ht, hn]
end GRB
