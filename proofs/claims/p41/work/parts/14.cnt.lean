section GSC
theorem xx_cancel (w x : Nat) : w ^^^ x ^^^ x = w := by rw [Nat.xor_assoc, Nat.xor_self, Nat.xor_zero]
/-- how often nI v stands at the places a .. b less 1 -/
def cn (f : Nat → Int32) (v a : Nat) : Nat → Nat
  | 0 => 0
  | b + 1 => cn f v a b + (if a ≤ b ∧ f b = nI v then 1 else 0)
theorem cn_start {f : Nat → Int32} {v a : Nat} : ∀ {b : Nat}, b ≤ a → cn f v a b = 0
  | 0, _ => rfl
  | b + 1, h => by
    show cn f v a b + (if a ≤ b ∧ f b = nI v then 1 else 0) = 0
    rw [cn_start (by omega), if_neg (by omega)]
theorem cn_yes {f : Nat → Int32} {v a b : Nat} (h : a ≤ b) (e : f b = nI v) : cn f v a (b + 1) = cn f v a b + 1 := by
  show cn f v a b + (if a ≤ b ∧ f b = nI v then 1 else 0) = _
  rw [if_pos ⟨h, e⟩]
theorem cn_no {f : Nat → Int32} {v a b : Nat} (e : f b ≠ nI v) : cn f v a (b + 1) = cn f v a b := by
  show cn f v a b + (if a ≤ b ∧ f b = nI v then 1 else 0) = _
  rw [if_neg (fun h => e h.2)]; exact Nat.add_zero _
theorem cn_le {f : Nat → Int32} {v a : Nat} : ∀ b : Nat, cn f v a b ≤ b - a
  | 0 => Nat.zero_le _
  | b + 1 => by
    show cn f v a b + (if a ≤ b ∧ f b = nI v then 1 else 0) ≤ b + 1 - a
    have := cn_le (f := f) (v := v) (a := a) b
    split <;> omega
theorem cn_pos {f : Nat → Int32} {v a : Nat} : ∀ {b : Nat}, 0 < cn f v a b → ∃ p, a ≤ p ∧ p < b ∧ f p = nI v
  | 0, h => absurd h (Nat.lt_irrefl 0)
  | b + 1, h => by
    by_cases hb : a ≤ b ∧ f b = nI v
    · exact ⟨b, hb.1, Nat.lt_succ_self b, hb.2⟩
    · have h2 : 0 < cn f v a b := by
        have h3 : 0 < cn f v a b + (if a ≤ b ∧ f b = nI v then 1 else 0) := h
        rw [if_neg hb] at h3; exact h3
      obtain ⟨p, p1, p2, p3⟩ := cn_pos h2
      exact ⟨p, p1, by omega, p3⟩
theorem sm_ind {u0 : Nat} : ∀ n, fb_sm (fun u => if u = u0 then 1 else 0) n = if u0 < n then 1 else 0
  | 0 => rfl
  | n + 1 => by
    rw [fb_sm_succ, sm_ind n]
    by_cases h : n = u0
    · subst h; simp
    · rw [if_neg h]; by_cases h2 : u0 < n
      · rw [if_pos h2, if_pos (by omega)]
      · rw [if_neg h2, if_neg (by omega)]
theorem cn_sum {f : Nat → Int32} (hf : RB 0 255 f) {x a : Nat} (hx : x < 256) : ∀ {b : Nat}, a ≤ b → fb_sm (fun u => cn f (u ^^^ x) a b) 256 = b - a
  | 0, h => by
    have : ∀ n, fb_sm (fun u => cn f (u ^^^ x) a 0) n = 0 := fun n => by
      induction n with
      | zero => rfl
      | succ n ih => rw [fb_sm_succ, ih]; rfl
    rw [this]; omega
  | b + 1, h => by
    by_cases hb : a ≤ b
    · obtain ⟨w, ew, hw⟩ := my_natE (hf b).1
      have hw2 := (hf b).2
      have hlt : w ^^^ x < 256 := Nat.xor_lt_two_pow (n := 8) (by omega) (by omega)
      have e : fb_sm (fun u => cn f (u ^^^ x) a (b + 1)) 256 = fb_sm (fun u => cn f (u ^^^ x) a b + (if u = w ^^^ x then 1 else 0)) 256 := by
        refine fb_sm_cong (fun u hu => ?_)
        show cn f (u ^^^ x) a b + (if a ≤ b ∧ f b = nI (u ^^^ x) then 1 else 0) = _
        have hux : u ^^^ x < 256 := Nat.xor_lt_two_pow (n := 8) (by omega) (by omega)
        by_cases hu2 : u = w ^^^ x
        · rw [if_pos hu2, if_pos ⟨hb, by rw [ew, hu2, xx_cancel]⟩]
        · rw [if_neg hu2, if_neg (fun q => hu2 ?_)]
          have q2 := q.2
          rw [ew] at q2
          have q3 : w = u ^^^ x := (nI_eq (by omega) (by omega)).mp q2
          rw [q3, xx_cancel]
      rw [e, fb_sm_add, cn_sum hf hx hb, sm_ind, if_pos hlt]; omega
    · have e : fb_sm (fun u => cn f (u ^^^ x) a (b + 1)) 256 = fb_sm (fun _ => 0) 256 := fb_sm_cong (fun u _ => cn_start (by omega))
      rw [e, fb_sm_const]; omega
theorem cn_sum0 {f : Nat → Int32} (hf : RB 0 255 f) {a b : Nat} (h : a ≤ b) : fb_sm (fun u => cn f u a b) 256 = b - a := by
  have := cn_sum hf (x := 0) (by omega) h
  simpa using this
/-- one number more is counted: the first half of the row, the second -/
theorem cn_step0 {f mn g : Nat → Int32} {a k w : Nat} {z : Int32} (eg : g = upd f w z) (ez : z = f w + 1) (ew : mn k = nI w) (hc : ∀ v, v < 256 → f v = nI (cn mn v a k)) (hw : w < 256) (hk : k < 64) (ha : a ≤ k) : ∀ v, v < 256 → g v = nI (cn mn v a (k + 1)) := by
  intro v hv
  have hle := cn_le (f := mn) (v := w) (a := a) k
  by_cases h : v = w
  · subst h; rw [eg, pk_us, ez, hc v hv, cn_yes ha ew]; exact nI_1 _
  · rw [eg, pk_un h, hc v hv, cn_no (fun q => h ?_)]
    rw [ew] at q
    exact ((nI_eq (by omega) (by omega)).mp q).symm
theorem cn_step1 {f mn g : Nat → Int32} {a k w : Nat} {z : Int32} (eg : g = upd f (w + 256) z) (ez : z = f (w + 256) + 1) (ew : mn k = nI w) (hc : ∀ v, v < 256 → f (v + 256) = nI (cn mn v a k)) (hw : w < 256) (hk : k < 64) (ha : a ≤ k) : ∀ v, v < 256 → g (v + 256) = nI (cn mn v a (k + 1)) := by
  intro v hv
  by_cases h : v = w
  · subst h; rw [eg, pk_us, ez, hc v hv, cn_yes ha ew]; exact nI_1 _
  · rw [eg, pk_un (by omega), hc v hv, cn_no (fun q => h ?_)]
    rw [ew] at q
    exact ((nI_eq (by omega) (by omega)).mp q).symm
theorem zr_step0 {f g : Nat → Int32} {k : Nat} (eg : g = upd f k 0) (hz : ∀ u, u < k → f u = 0) : ∀ u, u < k + 1 → g u = 0 := by
  intro u hu
  by_cases h : u = k
  · subst h; rw [eg, pk_us]
  · rw [eg, pk_un h]; exact hz u (by omega)
theorem zr_step1 {f g : Nat → Int32} {k : Nat} (eg : g = upd f (k + 256) 0) (hz : ∀ u, u < k → f (u + 256) = 0) : ∀ u, u < k + 1 → g (u + 256) = 0 := by
  intro u hu
  by_cases h : u = k
  · subst h; rw [eg, pk_us]
  · rw [eg, pk_un (by omega)]; exact hz u (by omega)
theorem up_hi {f g m : Nat → Int32} {k : Nat} {z : Int32} (eg : g = upd f k z) (h : ∀ j, 256 ≤ j → f j = m j) (hk : k < 256) : ∀ j, 256 ≤ j → g j = m j := fun j hj => by rw [eg, pk_un (by omega)]; exact h j hj
theorem up_lo {f g m : Nat → Int32} {k : Nat} {z : Int32} (eg : g = upd f k z) (h : ∀ j, j < 256 → f j = m j) (hk : 256 ≤ k) : ∀ j, j < 256 → g j = m j := fun j hj => by rw [eg, pk_un (by omega)]; exact h j hj
theorem cn_times {f mn : Nat → Int32} {a b v : Nat} (hc : ∀ v, v < 256 → f v = nI (cn mn v a b)) (hv : v < 256) (hb : b ≤ 64) : (f v).toInt = (cn mn v a b : Int) := by
  have := cn_le (f := mn) (v := v) (a := a) b
  rw [hc v hv]; exact nI_toInt (by omega)
theorem cn_part {mn : Nat → Int32} (hR : RB 0 255 mn) {a b v : Nat} (hab : a ≤ b) (hv : v < 256) : fb_sm (fun u => cn mn u a b) v + cn mn v a b ≤ b - a := by
  have h := fb_sm_part (fun u => cn mn u a b) hv
  rw [cn_sum0 hR hab] at h; exact h
theorem so_step {mn f g : Nat → Int32} {a b v m : Nat} (eg : g = upd f m (nI v)) (hS : ∀ j, j < m → ∃ p, a ≤ p ∧ p < b ∧ mn p = f j) (hp : 0 < cn mn v a b) : ∀ j, j < m + 1 → ∃ p, a ≤ p ∧ p < b ∧ mn p = g j := by
  intro j hj
  by_cases h : j = m
  · subst h; rw [eg, pk_us]; exact cn_pos hp
  · rw [eg, pk_un h]; exact hS j (by omega)
theorem my_ct0 {P : Nat → Bool} {k : Nat} {z : Int32} (e : P k = decide (z = 0)) : (z.toInt = 0 → fb_ct P (k + 1) = fb_ct P k + 1) ∧ (z.toInt ≠ 0 → fb_ct P (k + 1) = fb_ct P k) := by
  constructor
  · intro h
    have hz : z = 0 := Int32.toInt_inj.mp (by rw [h]; decide)
    rw [fb_ct_succ, e, hz]; simp
  · intro h
    have hz : z ≠ 0 := fun q => h (by rw [q]; decide)
    rw [fb_ct_succ, e, decide_eq_false hz]; simp
theorem bg_step {f g : Nat → Int32} {k : Nat} (eg : g = upd f k (nI k)) (h : ∀ p, p < k → f p = nI p) : ∀ p, p < k + 1 → g p = nI p := by
  intro p hp
  by_cases e : p = k
  · subst e; rw [eg, pk_us]
  · rw [eg, pk_un e]; exact h p (by omega)
theorem cp_step {f g h : Nat → Int32} {k : Nat} (eg : g = upd f k (h k)) (e : ∀ p, p < k → f p = h p) : ∀ p, p < k + 1 → g p = h p := by
  intro p hp
  by_cases q : p = k
  · subst q; rw [eg, pk_us]
  · rw [eg, pk_un q]; exact e p (by omega)
theorem pt_new {Q : Nat → Prop} {f g s : Nat → Int32} {k m : Nat} (eg : g = upd f m (s k)) (h : ∀ j, j < k → Q j → ∃ q, q < m ∧ f q = s j) : ∀ j, j < k + 1 → Q j → ∃ q, q < m + 1 ∧ g q = s j := by
  intro j hj hq
  by_cases e : j = k
  · subst e; exact ⟨m, Nat.lt_succ_self m, by rw [eg, pk_us]⟩
  · obtain ⟨q, q1, q2⟩ := h j (by omega) hq
    exact ⟨q, by omega, by rw [eg, pk_un (by omega)]; exact q2⟩
theorem pt_grow {Q : Nat → Prop} {f g s : Nat → Int32} {n m : Nat} {v : Int32} (eg : g = upd f m v) (h : ∀ j, j < n → Q j → ∃ q, q < m ∧ f q = s j) : ∀ j, j < n → Q j → ∃ q, q < m + 1 ∧ g q = s j := by
  intro j hj hq
  obtain ⟨q, q1, q2⟩ := h j hj hq
  exact ⟨q, by omega, by rw [eg, pk_un (by omega)]; exact q2⟩
theorem pt_old {Q : Nat → Prop} {f s : Nat → Int32} {k m : Nat} (h : ∀ j, j < k → Q j → ∃ q, q < m ∧ f q = s j) (hk : ¬ Q k) : ∀ j, j < k + 1 → Q j → ∃ q, q < m ∧ f q = s j := by
  intro j hj hq
  by_cases e : j = k
  · subst e; exact absurd hq hk
  · exact h j (by omega) hq
theorem pt_none {Q : Nat → Prop} {f s : Nat → Int32} {m : Nat} : ∀ j, j < 0 → Q j → ∃ q, q < m ∧ f q = s j := fun j h => absurd h (Nat.not_lt_zero j)
theorem pt_all {P : Nat → Bool} {f s : Nat → Int32} {n m k : Nat} (h0 : ∀ j, j < n → P j = true → ∃ q, q < m ∧ f q = s j) (h1 : ∀ j, j < k → P j = false → ∃ q, q < m ∧ f q = s j) (hk : n ≤ k) (hm : m ≤ n) : ∀ j, j < n → ∃ q, q < n ∧ f q = s j := by
  intro j hj
  cases e : P j with
  | true => obtain ⟨q, q1, q2⟩ := h0 j hj e; exact ⟨q, by omega, q2⟩
  | false => obtain ⟨q, q1, q2⟩ := h1 j (by omega) e; exact ⟨q, by omega, q2⟩
theorem ct_span (P : Nat → Bool) {m n : Nat} : m ≤ n → fb_ct P n ≤ fb_ct P m + (n - m) := fun h => by
  have e : n = m + (n - m) := by omega
  have h2 := fb_ct_split P m (n - m)
  rw [← e] at h2
  have h3 := fb_ct_le (fun k => P (m + k)) (n - m)
  omega
theorem sj_step {f g : Nat → Int32} {n : Nat} (h : ∀ p, p < n → ∃ q, q < n ∧ f q = nI p) (hs : ∀ j, j < n → ∃ q, q < n ∧ g q = f j) : ∀ p, p < n → ∃ q, q < n ∧ g q = nI p := by
  intro p hp
  obtain ⟨q, q1, q2⟩ := h p hp
  obtain ⟨r, r1, r2⟩ := hs q q1
  exact ⟨r, r1, r2.trans q2⟩
theorem sj_id {f : Nat → Int32} {n : Nat} (h : ∀ p, p < n → f p = nI p) : ∀ p, p < n → ∃ q, q < n ∧ f q = nI p := fun p hp => ⟨p, hp, h p hp⟩
/-- a search that must end -/
theorem wh_step {f : Nat → Int32} {v : Int32} {k n : Nat} (h : ∃ q, k ≤ q ∧ q < n ∧ f q = v) (hn : (f k).toInt ≠ v.toInt) : ∃ q, k + 1 ≤ q ∧ q < n ∧ f q = v := by
  obtain ⟨q, q1, q2, q3⟩ := h
  exact ⟨q, Nat.lt_of_le_of_ne q1 (fun e => hn (by rw [e, q3])), q2, q3⟩
theorem fa_start {mn : Nat → Int32} (hR : RB 0 255 mn) {x a b : Nat} (hx : x ≤ 255) (hab : a < b) (_ : b ≤ 64) : ∃ q, q ≤ 255 ∧ 0 < cn mn (q ^^^ x) a b := by
  have h := cn_sum hR (x := x) (a := a) (b := b) (by omega) (by omega)
  by_cases hz : ∃ q, q < 256 ∧ 0 < cn mn (q ^^^ x) a b
  · obtain ⟨q, q1, q2⟩ := hz; exact ⟨q, by omega, q2⟩
  · exfalso
    have e : fb_sm (fun u => cn mn (u ^^^ x) a b) 256 = fb_sm (fun _ => 0) 256 := fb_sm_cong (fun u hu => Nat.eq_zero_of_not_pos (fun p => hz ⟨u, hu, p⟩))
    rw [e, fb_sm_const] at h; omega
theorem fa_pos {mn : Nat → Int32} {x a b u : Nat} (h : ∃ q, q ≤ u ∧ 0 < cn mn (q ^^^ x) a b) (h0 : cn mn (u ^^^ x) a b = 0) : 1 ≤ u := by
  obtain ⟨q, q1, q2⟩ := h
  by_cases e : q = u
  · subst e; omega
  · omega
theorem fa_step {mn : Nat → Int32} {x a b u : Nat} (h : ∃ q, q ≤ u ∧ 0 < cn mn (q ^^^ x) a b) (h0 : cn mn (u ^^^ x) a b = 0) : ∃ q, q ≤ u - 1 ∧ 0 < cn mn (q ^^^ x) a b := by
  obtain ⟨q, q1, q2⟩ := h
  by_cases e : q = u
  · subst e; omega
  · exact ⟨q, by omega, q2⟩
end GSC
section GSZ
/-- zero bits among the first k of the eight, from the highest on -/
def za (v : Nat) : Nat → Nat
  | 0 => 0
  | k + 1 => za v k + (1 - v / 2 ^ (7 - k) % 2)
theorem za_part : ∀ v, v < 256 → ∀ k, k < 8 → za v k + (1 - v / 2 ^ (7 - k) % 2) ≤ za v 8 := by decide +kernel
theorem za_le8 : ∀ v, v < 256 → za v 8 ≤ 8 := by decide +kernel
def zub (x s : Int32) : Int32 := (x.toUInt32 >>> (s.toUInt32 &&& Int32.toUInt32 31)).toInt32
def zb1 (x : Int32) : Int32 := x - (zub x 1 &&& 1431655765)
def zb2 (x : Int32) : Int32 := (x &&& 858993459) + (zub x 2 &&& 858993459)
def zb3 (x : Int32) : Int32 := (x + zub x 4) &&& 252645135
def zb4 (x : Int32) : Int32 := x + zub x 8
def zb5 (x : Int32) : Int32 := x + zub x 16
def zbc (x : Int32) : Int32 := zb5 (zb4 (zb3 (zb2 (zb1 x)))) &&& 63
theorem zbc_255 : ∀ v, v < 256 → zbc (nI v) = nI (8 - za v 8) := by decide +kernel
theorem za_step {v w : Nat} {x : Int} (hw : (w : Int) = x) (h7 : x ≤ 7) (hv : v ≤ 255) : za v (7 - (x - 1)).toNat = za v (7 - x).toNat + (1 - v / 2 ^ w % 2) ∧ za v (7 - x).toNat + (1 - v / 2 ^ w % 2) ≤ za v 8 := by
  have e1 : (7 - (x - 1)).toNat = (7 - x).toNat + 1 := by omega
  have e2 : 7 - (7 - x).toNat = w := by omega
  have h := za_part v (by omega) (7 - x).toNat (by omega)
  rw [e2] at h
  refine ⟨?_, h⟩
  rw [e1]; show za v (7 - x).toNat + (1 - v / 2 ^ (7 - (7 - x).toNat) % 2) = _
  rw [e2]
end GSZ
