section GFY
/-- the lv highest bits of a number; how many of the places a .. b less 1 have h as these -/
def hd (x : Int32) (lv : Nat) : Nat := x.toInt.toNat / 2 ^ (8 - lv)
def cnl (f : Nat → Int32) (lv h a : Nat) : Nat → Nat
  | 0 => 0
  | b + 1 => cnl f lv h a b + (if a ≤ b ∧ hd (f b) lv = h then 1 else 0)
theorem cnl_start {f : Nat → Int32} {lv h a : Nat} : ∀ {b : Nat}, b ≤ a → cnl f lv h a b = 0
  | 0, _ => rfl
  | b + 1, q => by
    show cnl f lv h a b + (if a ≤ b ∧ hd (f b) lv = h then 1 else 0) = 0
    rw [cnl_start (by omega), if_neg (by omega)]
theorem cnl_le {f : Nat → Int32} {lv h a : Nat} : ∀ b : Nat, cnl f lv h a b ≤ b - a
  | 0 => Nat.zero_le _
  | b + 1 => by
    show cnl f lv h a b + (if a ≤ b ∧ hd (f b) lv = h then 1 else 0) ≤ b + 1 - a
    have := cnl_le (f := f) (lv := lv) (h := h) (a := a) b
    split <;> omega
theorem hd_8 {x : Int32} {v : Nat} (h0 : 0 ≤ x.toInt) (hv : v < 256) : hd x 8 = v ↔ x = nI v := by
  unfold hd
  rw [show 8 - 8 = 0 from rfl, Nat.pow_zero, Nat.div_one]
  constructor
  · intro e; exact my_eqI (a := (v : Int)) (by omega) (nI_toInt (by omega))
  · intro e; rw [e, nI_toInt (by omega)]; rfl
theorem cnl_8 {f : Nat → Int32} (hf : RB 0 255 f) {v a : Nat} (hv : v < 256) : ∀ b : Nat, cnl f 8 v a b = cn f v a b
  | 0 => rfl
  | b + 1 => by
    show cnl f 8 v a b + (if a ≤ b ∧ hd (f b) 8 = v then 1 else 0) = cn f v a b + (if a ≤ b ∧ f b = nI v then 1 else 0)
    rw [cnl_8 hf hv b]
    by_cases c : a ≤ b ∧ hd (f b) 8 = v
    · rw [if_pos c, if_pos ⟨c.1, (hd_8 (hf b).1 hv).mp c.2⟩]
    · rw [if_neg c, if_neg (fun q => c ⟨q.1, (hd_8 (hf b).1 hv).mpr q.2⟩)]
theorem pow_inj {lv j h q : Nat} (hh : h < 2 ^ lv) (hq : q < 2 ^ j) (e : 2 ^ lv + h = 2 ^ j + q) : lv = j ∧ h = q := by
  have e1 : 2 ^ (lv + 1) = 2 ^ lv * 2 := Nat.pow_succ ..
  have e2 : 2 ^ (j + 1) = 2 ^ j * 2 := Nat.pow_succ ..
  have hl : lv = j := by
    rcases Nat.lt_trichotomy lv j with c | c | c
    · have := Nat.pow_le_pow_right (n := 2) (by decide) (show lv + 1 ≤ j from c)
      omega
    · exact c
    · have := Nat.pow_le_pow_right (n := 2) (by decide) (show j + 1 ≤ lv from c)
      omega
  subst hl; exact ⟨rfl, by omega⟩
/-- the nodes' counts, as far as they have come: of place k the levels below j are in -/
def ND (g f : Nat → Int32) (a k j : Nat) : Prop := ∀ lv, lv ≤ 8 → ∀ h, h < 2 ^ lv → g (2 ^ lv + h) = nI (cnl f lv h a (if lv < j then k + 1 else k))
theorem nd_0 {g f : Nat → Int32} {a : Nat} (hz : ∀ j, j < 512 → g j = 0) : ND g f a a 0 := by
  intro lv hlv h hh
  have hp := my_pow8 (s := lv) hlv
  rw [if_neg (Nat.not_lt_zero _), hz _ (by omega), cnl_start (Nat.le_refl a)]; rfl
theorem nd_next {g f : Nat → Int32} {a k : Nat} (H : ND g f a k 9) : ND g f a (k + 1) 0 := by
  intro lv hlv h hh
  have q := H lv hlv h hh
  rw [if_pos (by omega)] at q
  rw [if_neg (Nat.not_lt_zero _)]; exact q
theorem nd_step {g g' f : Nat → Int32} {a k j w : Nat} {z : Int32} (H : ND g f a k j) (hj : j ≤ 8) (hak : a ≤ k) (ew : f k = nI w) (hw : w ≤ 255) (e : g' = upd g (2 ^ j + w / 2 ^ (8 - j)) z) (ez : z = g (2 ^ j + w / 2 ^ (8 - j)) + 1) : ND g' f a k (j + 1) := by
  have hq : w / 2 ^ (8 - j) < 2 ^ j := Nat.div_lt_of_lt_mul (by rw [← Nat.pow_add, show 8 - j + j = 8 by omega]; omega)
  have hhd : hd (f k) j = w / 2 ^ (8 - j) := by unfold hd; rw [ew, nI_toInt (by omega)]; rfl
  intro lv hlv h hh
  rw [e]
  by_cases c : 2 ^ lv + h = 2 ^ j + w / 2 ^ (8 - j)
  · obtain ⟨c1, c2⟩ := pow_inj hh hq c
    rw [c, pk_us, ez]
    subst c1
    rw [c2, H lv hlv _ hq, if_neg (Nat.lt_irrefl _), if_pos (Nat.lt_succ_self _)]
    show _ = nI (cnl f lv (w / 2 ^ (8 - lv)) a k + (if a ≤ k ∧ hd (f k) lv = w / 2 ^ (8 - lv) then 1 else 0))
    rw [if_pos ⟨hak, hhd⟩]; exact my_addN _ 1
  · rw [pk_un c, H lv hlv h hh]
    by_cases cl : lv < j
    · rw [if_pos cl, if_pos (by omega)]
    · by_cases cj : lv = j
      · subst cj
        rw [if_neg (Nat.lt_irrefl _), if_pos (Nat.lt_succ_self _)]
        show _ = nI (cnl f lv h a k + (if a ≤ k ∧ hd (f k) lv = h then 1 else 0))
        rw [if_neg (fun q => c (by rw [← q.2, hhd]))]; rfl
      · rw [if_neg cl, if_neg (by omega)]
theorem nd_end {g f : Nat → Int32} {a b : Nat} (H : ND g f a b 0) : ∀ lv, lv ≤ 8 → ∀ h, h < 2 ^ lv → g (2 ^ lv + h) = nI (cnl f lv h a b) := by
  intro lv hlv h hh
  have q := H lv hlv h hh
  rw [if_neg (Nat.not_lt_zero _)] at q; exact q
theorem nd_8 {g f : Nat → Int32} {a b : Nat} (hf : RB 0 255 f) (H : ∀ lv, lv ≤ 8 → ∀ h, h < 2 ^ lv → g (2 ^ lv + h) = nI (cnl f lv h a b)) : ∀ v, v < 256 → g (256 + v) = nI (cn f v a b) := by
  intro v hv
  have q := H 8 (by omega) v (by omega)
  rw [cnl_8 hf hv] at q; exact q
/-- the counts of a span's numbers -/
def cnF (f : Nat → Int32) (a b : Nat) : Nat → Nat := fun v => cn f v a b
theorem cn_cong {f g : Nat → Int32} {v a : Nat} : ∀ {b : Nat}, (∀ j, j < b → f j = g j) → cn f v a b = cn g v a b
  | 0, _ => rfl
  | b + 1, h => by
    show cn f v a b + (if a ≤ b ∧ f b = nI v then 1 else 0) = cn g v a b + (if a ≤ b ∧ g b = nI v then 1 else 0)
    rw [cn_cong (fun j hj => h j (by omega)), h b (by omega)]
theorem cnF_tie {f g : Nat → Int32} {a b n : Nat} (h : ∀ j, j < n → f j = g j) (hb : b ≤ n) : cnF f a b = cnF g a b := by
  funext v; exact cn_cong (fun j hj => h j (by omega))
theorem cnF_sum {f : Nat → Int32} (hf : RB 0 255 f) {a b : Nat} (h : a ≤ b) : fb_sm (cnF f a b) 256 = b - a := cn_sum0 hf h
/-- laid by size: what stands at the places that a number has -/
def SRV (g : Nat → Int32) (c : Nat → Nat) (n : Nat) : Prop := ∀ v, v < n → ∀ j, fb_sm c v ≤ j → j < fb_sm c (v + 1) → g j = nI v
theorem sm_mono (c : Nat → Nat) {m n : Nat} (h : m ≤ n) : fb_sm c m ≤ fb_sm c n := by
  obtain ⟨d, rfl⟩ : ∃ d, n = m + d := ⟨n - m, by omega⟩
  exact fb_sm_mono c m d
theorem slot_ex {c : Nat → Nat} {k : Nat} : ∀ n, k < fb_sm c n → ∃ v, v < n ∧ fb_sm c v ≤ k ∧ k < fb_sm c (v + 1)
  | 0, h => absurd h (Nat.not_lt_zero k)
  | n + 1, h => by
    by_cases q : k < fb_sm c n
    · obtain ⟨v, h1, h2⟩ := slot_ex n q
      exact ⟨v, by omega, h2⟩
    · exact ⟨n, by omega, by omega, h⟩
theorem sr_0 {g : Nat → Int32} {c : Nat → Nat} : SRV g c 0 := fun v h => absurd h (Nat.not_lt_zero v)
theorem sr_in {g g' : Nat → Int32} {c : Nat → Nat} {v sz : Nat} {x : Int32} (H : SRV g c v) (e : g' = upd g sz x) (hs : fb_sm c v ≤ sz) : SRV g' c v := by
  intro u hu j h1 h2
  have := sm_mono c (show u + 1 ≤ v from hu)
  rw [e, pk_un (by omega)]; exact H u hu j h1 h2
theorem sr_in2 {g g' : Nat → Int32} {v s j sz : Nat} (H : ∀ q, s ≤ q → q < s + j → g q = nI v) (e : g' = upd g sz (nI v)) (hs : sz = s + j) : ∀ q, s ≤ q → q < s + (j + 1) → g' q = nI v := by
  intro q h1 h2
  rw [e]
  by_cases c : q = sz
  · rw [c, pk_us]
  · rw [pk_un c]; exact H q h1 (by omega)
theorem sr_out {g : Nat → Int32} {c : Nat → Nat} {v j : Nat} (H : SRV g c v) (H2 : ∀ q, fb_sm c v ≤ q → q < fb_sm c v + j → g q = nI v) (hj : j = c v) : SRV g c (v + 1) := by
  intro u hu q h1 h2
  by_cases e : u = v
  · subst e; rw [fb_sm_succ] at h2; exact H2 q h1 (by omega)
  · exact H u (by omega) q h1 h2
end GFY
