section GSK
/-- all of an array's numbers lie between -/
def RB (lo hi : Int) (f : Nat → Int32) : Prop := ∀ j, lo ≤ (f j).toInt ∧ (f j).toInt ≤ hi
theorem RB.upd {lo hi : Int} {f : Nat → Int32} {k : Nat} {v : Int32} {a : Int} (h : RB lo hi f) (e : v.toInt = a) (h1 : lo ≤ a) (h2 : a ≤ hi) : RB lo hi (upd f k v) := fun j => by
  by_cases hj : j = k
  · subst hj; rw [pk_us, e]; exact ⟨h1, h2⟩
  · rw [pk_un hj]; exact h j
theorem RB.cpy {lo hi : Int} {f g : Nat → Int32} {a b c : Nat} (hf : RB lo hi f) (hg : RB lo hi g) : RB lo hi (va_cpy f g a b c) := fun j => by
  unfold va_cpy; split
  · exact hf _
  · exact hg _
theorem RB.zero {lo hi : Int} (h1 : lo ≤ 0) (h2 : 0 ≤ hi) : RB lo hi (fun _ => (0 : Int32)) := fun _ => ⟨h1, h2⟩
theorem my_natE {x : Int32} (h : 0 ≤ x.toInt) : ∃ w : Nat, x = nI w ∧ (w : Int) = x.toInt := ⟨x.toInt.toNat, my_nat h, by omega⟩
theorem my_natP {x : Int32} (h : 0 ≤ x.toInt) : ∃ w : Nat, x = nI w ∧ (nI w).toInt = (w : Int) := by
  obtain ⟨w, e, hw⟩ := my_natE h
  exact ⟨w, e, by rw [← e]; exact hw.symm⟩
theorem nI_nneg {k : Nat} (h : k < 2 ^ 31) : ¬ nI k < 0 := fun c => by
  have := my_lt c (nI_toInt h) (show (0 : Int32).toInt = 0 by decide +kernel); omega
theorem my_decG {u : Nat} (h : 1 ≤ u) : nI u + Int32.ofInt (-1) = nI (u - 1) := by
  obtain ⟨w, rfl⟩ : ∃ w, u = w + 1 := ⟨u - 1, by omega⟩
  exact my_decN w
theorem my_mulN (a b : Nat) : nI a * nI b = nI (a * b) := by
  unfold nI; exact (Int32.ofNat_mul a b).symm
theorem my_mulN2 (a b : Nat) : nI a * nI b = nI (b * a) := by rw [my_mulN, Nat.mul_comm]
theorem my_maskN (a k : Nat) {c : Int32} (h : c = nI (2 ^ k - 1) := by decide +kernel) : nI a &&& c = nI (a % 2 ^ k) := by
  rw [h]; apply Int32.toBitVec_inj.1
  show BitVec.ofNat 32 a &&& BitVec.ofNat 32 (2 ^ k - 1) = BitVec.ofNat 32 (a % 2 ^ k)
  rw [← BitVec.ofNat_and, Nat.and_two_pow_sub_one_eq_mod]
theorem my_shrG {k s : Nat} (hk : k < 2 ^ 31) (hs : s < 32) : nI k >>> (nI s &&& 31) = nI (k / 2 ^ s) := by
  apply Int32.toBitVec_inj.mp
  rw [Int32.toBitVec_shiftRight]
  have e : ((nI s &&& 31).toBitVec.smod 32).toNat = s := (by decide +kernel : ∀ n, n < 32 → ((nI n &&& 31).toBitVec.smod 32).toNat = n) s hs
  show (nI k).toBitVec.sshiftRight ((nI s &&& 31).toBitVec.smod 32).toNat = _
  rw [e]
  apply BitVec.eq_of_toInt_eq
  rw [BitVec.toInt_sshiftRight]
  have h1 : (nI k).toBitVec.toInt = (k : Int) := nI_toInt hk
  have h2 : (nI (k / 2 ^ s)).toBitVec.toInt = ((k / 2 ^ s : Nat) : Int) := nI_toInt (Nat.lt_of_le_of_lt (Nat.div_le_self _ _) hk)
  rw [h1, h2, Int.shiftRight_eq_div_pow]
  push_cast; rfl
theorem my_shrR {x : Int32} {s : Nat} (h : 0 ≤ x.toInt) (hs : s < 32) : 0 ≤ (x >>> (nI s &&& 31)).toInt ∧ (x >>> (nI s &&& 31)).toInt ≤ x.toInt := by
  obtain ⟨w, e, hw⟩ := my_natE h
  have hlt : x.toInt < 2147483648 := Int32.toInt_lt x
  rw [← hw, e, my_shrG (by omega) hs, nI_toInt (Nat.lt_of_le_of_lt (Nat.div_le_self _ _) (by omega))]
  have hq := Nat.div_le_self w (2 ^ s)
  generalize w / 2 ^ s = q at hq ⊢
  omega
theorem my_andR {x c : Int32} {k : Int} (h : c.toInt = k) (hk : 0 ≤ k) : 0 ≤ (x &&& c).toInt ∧ (x &&& c).toInt ≤ k := by
  obtain ⟨w, e, hw⟩ := my_natE (x := c) (by omega)
  have hlt : c.toInt < 2147483648 := Int32.toInt_lt c
  have h1 : (x &&& c).toBitVec.toNat ≤ w := by
    rw [Int32.toBitVec_and, BitVec.toNat_and]
    have h2 : c.toBitVec.toNat = w := by
      rw [e]; show (BitVec.ofNat 32 w).toNat = w
      rw [BitVec.toNat_ofNat]; exact Nat.mod_eq_of_lt (by omega)
    rw [h2]; exact Nat.and_le_right
  have h3 : (x &&& c).toInt = ((x &&& c).toBitVec.toNat : Int) := by
    show (x &&& c).toBitVec.toInt = _
    rw [BitVec.toInt_eq_toNat_cond, if_pos (by omega)]
  rw [h3]; omega
theorem my_shl1 {s : Nat} (hs : s < 31) : (1 : Int32) <<< (nI s &&& 31) = nI (2 ^ s) := (by decide +kernel : ∀ s, s < 31 → (1 : Int32) <<< (nI s &&& 31) = nI (2 ^ s)) s hs
theorem my_pow8 {s : Nat} (hs : s ≤ 8) : 1 ≤ 2 ^ s ∧ 2 ^ s ≤ 256 := (by decide +kernel : ∀ s, s ≤ 8 → 1 ≤ 2 ^ s ∧ 2 ^ s ≤ 256) s hs
theorem my_pow4 {s : Nat} (hs : s ≤ 4) : 1 ≤ 2 ^ s ∧ 2 ^ s ≤ 16 := (by decide +kernel : ∀ s, s ≤ 4 → 1 ≤ 2 ^ s ∧ 2 ^ s ≤ 16) s hs
theorem my_shl2 (w : Nat) : nI w <<< ((1 : Int32) &&& 31) = nI (2 ^ 1 * w) := by
  apply Int32.toBitVec_inj.mp
  rw [Int32.toBitVec_shiftLeft]
  show BitVec.ofNat 32 w <<< (((1 : Int32) &&& 31).toBitVec.smod 32).toNat = BitVec.ofNat 32 (2 ^ 1 * w)
  rw [show (((1 : Int32) &&& 31).toBitVec.smod 32).toNat = 1 from by decide]
  apply BitVec.eq_of_toNat_eq
  rw [BitVec.toNat_shiftLeft, BitVec.toNat_ofNat, BitVec.toNat_ofNat, Nat.shiftLeft_eq]
  omega
end GSK
