section GRD
/-- the greatest bit by which the least is reached first; the order of bits that is found so -/
def tA (F : Nat → Nat) (S : Nat → Bool) : Nat → Nat
  | 0 => 8
  | m + 1 => if S (7 - m) = true ∧ F (7 - m) < tM F S m then 7 - m else tA F S m
def tO (n : Nat) : Nat → (Nat → Nat) → (Nat → Bool) → Nat → Nat
  | 0, _, _, _ => 0
  | k + 1, g, S, 0 => tA (tF n k g S) S 8
  | k + 1, g, S, i + 1 => tO n k (tP g (tA (tF n k g S) S 8) n) (tR S (tA (tF n k g S) S 8)) i
theorem tA_y {F : Nat → Nat} {S : Nat → Bool} {m : Nat} (h : S (7 - m) = true) (hl : F (7 - m) < tM F S m) : tA F S (m + 1) = 7 - m := by
  show (if S (7 - m) = true ∧ F (7 - m) < tM F S m then 7 - m else tA F S m) = _
  rw [if_pos ⟨h, hl⟩]
theorem tA_n {F : Nat → Nat} {S : Nat → Bool} {m : Nat} (h : S (7 - m) = false ∨ tM F S m ≤ F (7 - m)) : tA F S (m + 1) = tA F S m := by
  show (if S (7 - m) = true ∧ F (7 - m) < tM F S m then 7 - m else tA F S m) = _
  rw [if_neg (fun q => by rcases h with h | h; (rw [h] at q; exact Bool.false_ne_true q.1); (have := q.2; omega))]
theorem tA_cong {F G : Nat → Nat} {S T : Nat → Bool} (hS : ∀ b, b < 8 → S b = T b) (h : ∀ b, b < 8 → S b = true → F b = G b) : ∀ m, m ≤ 8 → tA F S m = tA G T m
  | 0, _ => rfl
  | m + 1, hm => by
    have ih := tA_cong hS h m (by omega)
    have em := tM_cong hS h m (by omega)
    have hb : 7 - m < 8 := by omega
    show (if S (7 - m) = true ∧ F (7 - m) < tM F S m then 7 - m else tA F S m) = (if T (7 - m) = true ∧ G (7 - m) < tM G T m then 7 - m else tA G T m)
    cases hs : S (7 - m)
    · rw [← hS _ hb, hs, if_neg (fun q => Bool.false_ne_true q.1), if_neg (fun q => Bool.false_ne_true q.1), ih]
    · rw [← hS _ hb, hs, em, h _ hb hs, ih]
theorem tF_cong {n k : Nat} {g h : Nat → Nat} {S T : Nat → Bool} (e : ∀ i, i < n → g i = h i) (hS : ∀ b, b < 8 → S b = T b) (b : Nat) : tF n k g S b = tF n k h T b := by
  unfold tF
  rw [rn_cong (b := tB g b) (c := tB h b) (fun i hi => tB_cong e hi), tT_cong k (g := tP g b n) (h := tP h b n) (S := tR S b) (T := tR T b) (fun i hi => tP_cong e hi) (fun c hc => by unfold tR; rw [hS c hc])]
theorem tO_cong {n : Nat} : ∀ (k : Nat) {g h : Nat → Nat} {S T : Nat → Bool}, (∀ i, i < n → g i = h i) → (∀ b, b < 8 → S b = T b) → ∀ i, tO n k g S i = tO n k h T i
  | 0, _, _, _, _, _, _, _ => rfl
  | k + 1, g, h, S, T, e, hS, 0 => tA_cong hS (fun b _ _ => tF_cong e hS b) 8 (Nat.le_refl 8)
  | k + 1, g, h, S, T, e, hS, i + 1 => by
    have ea : tA (tF n k g S) S 8 = tA (tF n k h T) T 8 := tA_cong hS (fun b _ _ => tF_cong e hS b) 8 (Nat.le_refl 8)
    show tO n k (tP g (tA (tF n k g S) S 8) n) (tR S (tA (tF n k g S) S 8)) i = tO n k (tP h (tA (tF n k h T) T 8) n) (tR T (tA (tF n k h T) T 8)) i
    rw [ea]
    exact tO_cong k (fun i hi => tP_cong e hi) (fun c hc => by unfold tR; rw [hS c hc]) i
/-- what it says of itself -/
def tAp (F : Nat → Nat) (S : Nat → Bool) (m b : Nat) : Prop := b < 8 ∧ 7 - b < m ∧ S b = true ∧ F b = tM F S m ∧ ∀ c, b < c → c < 8 → S c = true → tM F S m < F c
theorem tA_spec {F : Nat → Nat} {S : Nat → Bool} : ∀ m, m ≤ 8 → (tM F S m = 100000) ∨ tAp F S m (tA F S m)
  | 0, _ => Or.inl rfl
  | m + 1, hm => by
    have ih := tA_spec (F := F) (S := S) m (by omega)
    cases hs : S (7 - m)
    · rw [tM_no hs, tA_n (Or.inl hs)]
      rcases ih with ih | ⟨h1, h2, h3, h4, h5⟩
      · exact Or.inl ih
      · exact Or.inr ⟨h1, by omega, h3, by rw [tM_no hs]; exact h4, fun c c1 c2 c3 => by rw [tM_no hs]; exact h5 c c1 c2 c3⟩
    · rw [tM_yes hs]
      by_cases c : F (7 - m) < tM F S m
      · rw [tA_y hs c, Nat.min_eq_right (by omega)]
        refine Or.inr ⟨by omega, by omega, hs, by rw [tM_yes hs, Nat.min_eq_right (by omega)], fun d d1 d2 d3 => ?_⟩
        rw [tM_yes hs, Nat.min_eq_right (by omega)]
        have := tM_le (F := F) (S := S) (m := m) d2 (by omega) d3
        omega
      · rw [tA_n (Or.inr (by omega)), Nat.min_eq_left (by omega)]
        rcases ih with ih | ⟨h1, h2, h3, h4, h5⟩
        · exact Or.inl ih
        · exact Or.inr ⟨h1, by omega, h3, by rw [tM_yes hs, Nat.min_eq_left (by omega)]; exact h4, fun d d1 d2 d3 => by rw [tM_yes hs, Nat.min_eq_left (by omega)]; exact h5 d d1 d2 d3⟩
theorem tA_at {F : Nat → Nat} {S : Nat → Bool} {b : Nat} (hb : b < 8) (hs : S b = true) (h5 : F b < 100000) (hm : ∀ c, c < 8 → S c = true → F b ≤ F c) (hg : ∀ c, b < c → c < 8 → S c = true → F b < F c) : tA F S 8 = b := by
  have e : tM F S 8 = F b := Nat.le_antisymm (tM_le hb (by omega) hs) (tM_ge (Nat.le_refl 8) (by omega) hm)
  rcases tA_spec (F := F) (S := S) 8 (Nat.le_refl 8) with h | ⟨h1, h2, h3, h4, h6⟩
  · omega
  · rcases Nat.lt_trichotomy (tA F S 8) b with c | c | c
    · have := h6 b c hb hs; omega
    · exact c
    · have := hg _ c h1 h3; omega
/-- what stands where behind a search: unchanged, or the new order -/
def bsW (N F v : Nat) (me me' : Nat → Int32) (sq : Nat → Int32) : Prop := (F ≤ v → ∀ i, i < N → me' i = me i) ∧ (v < F → ∀ i, i < N → me' i = sq i)
def tE (mc : Nat → Int32) (n k : Nat) (g : Nat → Nat) (S : Nat → Bool) (j : Nat) : Nat → Int32 := fun i => if i < j then mc i else nI (tO n k g S (i - j))
def tQ (mc : Nat → Int32) (n k : Nat) (g : Nat → Nat) (S : Nat → Bool) (j m : Nat) : Nat → Int32 := fun i => if i < j then mc i else if i = j then nI (tA (tF n k g S) S m) else nI (tO n k (tP g (tA (tF n k g S) S m) n) (tR S (tA (tF n k g S) S m)) (i - j - 1))
theorem bs_same {N F v : Nat} {me : Nat → Int32} {sq : Nat → Int32} (h : F ≤ v) : bsW N F v me me sq := ⟨fun _ _ _ => rfl, fun q => absurd h (by omega)⟩
theorem bs_prune {N F ra T : Nat} {e : Int32} {me : Nat → Int32} {sq : Nat → Int32} (h : fwR e F) (h0 : 0 ≤ e.toInt) (hr : e.toInt ≤ (ra : Int)) : bsW N F (ra + T) me me sq := by
  rcases h with ⟨h1, h2⟩ | ⟨h1, h2⟩
  · omega
  · exact bs_same (by omega)
theorem bs_0 {N F ra n k j : Nat} {me mc : Nat → Int32} {g : Nat → Nat} {S : Nat → Bool} {e : Int32} (h : fwR e F) : bsW N F (ra + tM (tF n k g S) S 0) me me (tQ mc n k g S j 0) := by
  refine bs_same ?_
  have e9 : tM (tF n k g S) S 0 = 100000 := rfl
  rw [e9]; rcases h with ⟨h1, h2⟩ | ⟨h1, h2⟩ <;> omega
theorem bs_0c {N F ra n k j : Nat} {me mc : Nat → Int32} {g : Nat → Nat} {S : Nat → Bool} (h : F ≤ 513) : bsW N F (ra + tM (tF n k g S) S 0) me me (tQ mc n k g S j 0) := by
  refine bs_same ?_
  have e9 : tM (tF n k g S) S 0 = 100000 := rfl
  rw [e9]; omega
theorem bs_at {N F ra n k j : Nat} {me me' mc : Nat → Int32} {g : Nat → Nat} {S : Nat → Bool} {x : Int} (h : bsW N F (ra + tM (tF n k g S) S 0) me me' (tQ mc n k g S j 0)) (hx : x = 7) : bsW N F (ra + tM (tF n k g S) S (7 - x).toNat) me me' (tQ mc n k g S j (7 - x).toNat) := by
  rw [hx]; exact h
theorem bs_skip {N F ra n k j : Nat} {me me' mc : Nat → Int32} {g : Nat → Nat} {S : Nat → Bool} {x y : Int} (h : bsW N F (ra + tM (tF n k g S) S (7 - x).toNat) me me' (tQ mc n k g S j (7 - x).toNat)) (hy : y = x - 1) (h0 : 0 ≤ x) (h7 : x ≤ 7) (hs : S x.toNat = false) : bsW N F (ra + tM (tF n k g S) S (7 - y).toNat) me me' (tQ mc n k g S j (7 - y).toNat) := by
  have e0 : 7 - (7 - x).toNat = x.toNat := by omega
  have e1 : tM (tF n k g S) S (7 - y).toNat = tM (tF n k g S) S (7 - x).toNat := by
    rw [show (7 - y).toNat = (7 - x).toNat + 1 by omega, tM_no (by rw [e0]; exact hs)]
  have e2 : tA (tF n k g S) S (7 - y).toNat = tA (tF n k g S) S (7 - x).toNat := by
    rw [show (7 - y).toNat = (7 - x).toNat + 1 by omega, tA_n (Or.inl (by rw [e0]; exact hs))]
  unfold tQ at h ⊢
  rw [e1, e2]; exact h
/-- a child that can't do better -/
theorem bs_bound {N F ra n k j : Nat} {me me' mc : Nat → Int32} {g : Nat → Nat} {S : Nat → Bool} {x y : Int} (h : bsW N F (ra + tM (tF n k g S) S (7 - x).toNat) me me' (tQ mc n k g S j (7 - x).toNat)) (hy : y = x - 1) (h0 : 0 ≤ x) (h7 : x ≤ 7) (hs : S x.toNat = true) (hb : min F (ra + tM (tF n k g S) S (7 - x).toNat) ≤ ra + tF n k g S x.toNat) : bsW N F (ra + tM (tF n k g S) S (7 - y).toNat) me me' (tQ mc n k g S j (7 - y).toNat) := by
  have e0 : 7 - (7 - x).toNat = x.toNat := by omega
  have e1 : tM (tF n k g S) S (7 - y).toNat = min (tM (tF n k g S) S (7 - x).toNat) (tF n k g S x.toNat) := by
    rw [show (7 - y).toNat = (7 - x).toNat + 1 by omega, tM_yes (by rw [e0]; exact hs), e0]
  by_cases c : tM (tF n k g S) S (7 - x).toNat ≤ tF n k g S x.toNat
  · have e2 : tA (tF n k g S) S (7 - y).toNat = tA (tF n k g S) S (7 - x).toNat := by
      rw [show (7 - y).toNat = (7 - x).toNat + 1 by omega, tA_n (Or.inr (by rw [e0]; exact c))]
    rw [Nat.min_eq_left c] at e1
    unfold tQ at h ⊢
    rw [e1, e2]; exact h
  · rw [e1, Nat.min_eq_right (by omega)]
    exact ⟨fun q i hi => h.1 (by omega) i hi, fun q => absurd q (by omega)⟩
/-- a child that has been searched -/
theorem bs_take {N F ra v n k j b : Nat} {me me1 me2 mc m0 m1 : Nat → Int32} {g g' : Nat → Nat} {S S' : Nat → Bool} {x y : Int} (h : bsW N F (ra + tM (tF n k g S) S (7 - x).toNat) me me1 (tQ mc n k g S j (7 - x).toNat)) (c : bsW N (min F (ra + tM (tF n k g S) S (7 - x).toNat)) v me1 me2 (tE m1 n k g' S' (j + 1))) (hv : v = ra + tF n k g S x.toNat) (hy : y = x - 1) (h0 : 0 ≤ x) (h7 : x ≤ 7) (hb : x = (b : Int)) (hs : S x.toNat = true) (hg : ∀ i, i < n → g' i = tP g b n i) (hS : ∀ c, c < 8 → S' c = tR S b c) (e1 : m1 = upd m0 j (nI b)) (h1 : ∀ i, i < j → m0 i = mc i) : bsW N F (ra + tM (tF n k g S) S (7 - y).toNat) me me2 (tQ mc n k g S j (7 - y).toNat) := by
  have e0 : 7 - (7 - x).toNat = x.toNat := by omega
  have exb : x.toNat = b := by omega
  have eM : tM (tF n k g S) S (7 - y).toNat = min (tM (tF n k g S) S (7 - x).toNat) (tF n k g S x.toNat) := by
    rw [show (7 - y).toNat = (7 - x).toNat + 1 by omega, tM_yes (by rw [e0]; exact hs), e0]
  by_cases d : tM (tF n k g S) S (7 - x).toNat ≤ tF n k g S x.toNat
  · have e2 : tA (tF n k g S) S (7 - y).toNat = tA (tF n k g S) S (7 - x).toNat := by
      rw [show (7 - y).toNat = (7 - x).toNat + 1 by omega, tA_n (Or.inr (by rw [e0]; exact d))]
    rw [Nat.min_eq_left d] at eM
    have c1 := c.1 (by omega)
    unfold tQ at h ⊢
    rw [eM, e2]
    exact ⟨fun q i hi => (c1 i hi).trans (h.1 q i hi), fun q i hi => (c1 i hi).trans (h.2 q i hi)⟩
  · have e2 : tA (tF n k g S) S (7 - y).toNat = b := by
      rw [show (7 - y).toNat = (7 - x).toNat + 1 by omega, tA_y (by rw [e0]; exact hs) (by rw [e0]; omega), e0, exb]
    rw [eM, Nat.min_eq_right (by omega)]
    refine ⟨fun q i hi => (c.1 (by omega) i hi).trans (h.1 (by omega) i hi), fun q i hi => ?_⟩
    rw [c.2 (by omega) i hi]
    unfold tE tQ
    rw [e2]
    by_cases i1 : i < j
    · rw [if_pos (by omega), if_pos i1, e1, pk_un (by omega)]; exact h1 i i1
    · rw [if_neg i1]
      by_cases i2 : i = j
      · rw [if_pos i2, if_pos (by omega), e1, i2, pk_us]
      · rw [if_neg i2, if_neg (by omega), show i - (j + 1) = i - j - 1 by omega]
        congr 1
        exact tO_cong k hg hS _
theorem bs_end {N F ra n k j : Nat} {me me' mc : Nat → Int32} {g : Nat → Nat} {S : Nat → Bool} {x : Int} (h : bsW N F (ra + tM (tF n k g S) S (7 - x).toNat) me me' (tQ mc n k g S j (7 - x).toNat)) (hx : x = -1) : bsW N F (ra + tT n (k + 1) g S) me me' (tE mc n (k + 1) g S j) := by
  rw [hx, show (7 - (-1 : Int)).toNat = 8 from rfl] at h
  refine ⟨h.1, fun q i hi => ?_⟩
  rw [h.2 q i hi]
  unfold tQ tE
  by_cases i1 : i < j
  · rw [if_pos i1, if_pos i1]
  · rw [if_neg i1, if_neg i1]
    by_cases i2 : i = j
    · rw [if_pos i2, i2, Nat.sub_self]; rfl
    · rw [if_neg i2]
      obtain ⟨d, hd⟩ : ∃ d, i - j = d + 1 := ⟨i - j - 1, by omega⟩
      rw [hd]; rfl
/-- a leaf: the order that has been tried is kept -/
theorem bs_leaf {N F ra n j : Nat} {me me' mc : Nat → Int32} {g : Nat → Nat} {S : Nat → Bool} (hl : ra < F) (h : ∀ i, i < N → me' i = mc i) (hj : N ≤ j) : bsW N F (ra + tT n 0 g S) me me' (tE mc n 0 g S j) := by
  refine ⟨fun q => absurd q (by have e : tT n 0 g S = 0 := rfl; omega), fun _ i hi => ?_⟩
  unfold tE
  rw [if_pos (by omega)]; exact h i hi
theorem fw_lt {e : Int32} {F ra : Nat} (h : fwR e F) (hr : e.toInt < 0 ∨ (ra : Int) < e.toInt) (h5 : ra ≤ 512) : ra < F := by
  rcases h with ⟨h1, h2⟩ | ⟨h1, h2⟩ <;> omega
theorem bs_leafc {N F ra n j K O : Nat} {me me' mc : Nat → Int32} {g : Nat → Nat} (h0 : O = 0) (hK : K = tC (oS O)) (hl : ra < F) (h : ∀ i, i < N → me' i = mc i) (hj : tC (oS O) + j = N) : bsW N F (ra + tT n K g (oS O)) me me' (tE mc n K g (oS O) j) := by
  have z : tC (oS 0) = 0 := by decide +kernel
  have hz : K = 0 := by rw [hK, h0, z]
  rw [h0, z] at hj
  subst hz
  exact bs_leaf hl h (by omega)
theorem ch_k {m0 m1 mc : Nat → Int32} {j i : Nat} {v : Int32} (e : m1 = upd m0 j v) (hi : i < j) (h : ∀ i, i < j → m0 i = mc i) : m1 i = mc i := by
  rw [e, pk_un (by omega)]; exact h i hi
theorem th_g {f o o1 o2 : Nat → Int32} {n w : Nat} (hst : ∀ i, i < n → o1 i = o i) (hpt : ∀ q, q < n → o2 (nxb (boP f o1 w) n q) = o1 q) : ∀ i, i < n → vG f o2 i = tP (vG f o) w n i := by
  intro i hi
  have eb : ∀ i, i < n → boP f o1 w i = tB (vG f o) w i := fun i hi => by unfold boP tB vG; rw [hst i hi]
  have h1 := nxi_spec (b := boP f o1 w) hi
  have h2 := hpt _ h1.1
  rw [h1.2] at h2
  unfold tP
  rw [← nxi_cong hi eb]
  unfold vG
  rw [h2, hst _ h1.1]
theorem tA_le8 {F : Nat → Nat} {S : Nat → Bool} : ∀ m, tA F S m ≤ 8
  | 0 => Nat.le_refl 8
  | m + 1 => by
    show (if S (7 - m) = true ∧ F (7 - m) < tM F S m then 7 - m else tA F S m) ≤ 8
    have ih := tA_le8 (F := F) (S := S) m
    split <;> omega
theorem tO_le (n : Nat) : ∀ (k : Nat) (g : Nat → Nat) (S : Nat → Bool) (i : Nat), tO n k g S i ≤ 8
  | 0, _, _, _ => Nat.zero_le 8
  | _ + 1, _, _, 0 => tA_le8 8
  | k + 1, _, _, i + 1 => tO_le n k _ _ i
/-- behind the whole search -/
theorem bs_top {N F n K : Nat} {me me' mc : Nat → Int32} {g : Nat → Nat} {S : Nat → Bool} (h : bsW N F (0 + tT n (K - 0) g S) me me' (tE mc n (K - 0) g S 0)) (hF : N = 0 ∨ F = 513) (hK : K ≤ tC S) (h64 : n ≤ 64) : ∀ i, i < N → me' i = nI (tO n K g S i) := by
  intro i hi
  have h8 : tC S ≤ 8 := fb_ct_le S 8
  have hb : tT n K g S ≤ n * K := tT_le K hK
  have hb2 : n * K ≤ 64 * 8 := Nat.mul_le_mul h64 (by omega)
  rw [Nat.sub_zero] at h
  have e := h.2 (by omega) i hi
  unfold tE at e
  rw [if_neg (Nat.not_lt_zero i), Nat.sub_zero] at e
  exact e
/-- constants and varied bits put together -/
def tp (C : Nat → Bool) : Nat → Nat
  | 0 => 0
  | m + 1 => if C m = true then m + 1 else tp C m
theorem tp_y {C : Nat → Bool} {m : Nat} (h : C m = true) : tp C (m + 1) = m + 1 := by
  show (if C m = true then m + 1 else tp C m) = _
  rw [if_pos h]
theorem tp_n {C : Nat → Bool} {m : Nat} (h : C m = false) : tp C (m + 1) = tp C m := by
  show (if C m = true then m + 1 else tp C m) = _
  rw [h]; rfl
theorem tp_le {C : Nat → Bool} : ∀ m, tp C m ≤ m
  | 0 => Nat.le_refl 0
  | m + 1 => by
    have ih := tp_le (C := C) m
    cases h : C m
    · rw [tp_n h]; omega
    · rw [tp_y h]; exact Nat.le_refl _
theorem tp_at {C : Nat → Bool} : ∀ m, 0 < tp C m → C (tp C m - 1) = true
  | 0, h => absurd h (Nat.lt_irrefl 0)
  | m + 1, h => by
    cases e : C m
    · rw [tp_n e] at h ⊢; exact tp_at m h
    · rw [tp_y e]; exact e
theorem tp_ge {C : Nat → Bool} {c : Nat} (hc : C c = true) : ∀ m, c < m → c < tp C m
  | 0, h => absurd h (Nat.not_lt_zero c)
  | m + 1, h => by
    cases e : C m
    · rw [tp_n e]
      exact tp_ge hc m (by rcases Nat.lt_succ_iff_lt_or_eq.mp h with q | q; (exact q); (rw [q, e] at hc; cases hc))
    · rw [tp_y e]; exact h
theorem tp_cong {C D : Nat → Bool} : ∀ m, (∀ c, c < m → C c = D c) → tp C m = tp D m
  | 0, _ => rfl
  | m + 1, h => by
    have ih := tp_cong m (fun c hc => h c (by omega))
    show (if C m = true then m + 1 else tp C m) = (if D m = true then m + 1 else tp D m)
    rw [h m (by omega), ih]
def mgF : Nat → (Nat → Bool) → Nat → (Nat → Nat) → Nat → Nat
  | 0, _, _, _, _ => 0
  | s + 1, C, m, B, 0 => if m ≠ 0 ∧ tp C 8 ≤ B 0 then B 0 else tp C 8 - 1
  | s + 1, C, m, B, i + 1 => if m ≠ 0 ∧ tp C 8 ≤ B 0 then mgF s C (m - 1) (fun i => B (i + 1)) i else mgF s (tR C (tp C 8 - 1)) m B i
theorem mg_cong : ∀ (s : Nat) {C D : Nat → Bool} {m : Nat} {A B : Nat → Nat}, (∀ c, c < 8 → C c = D c) → (∀ i, i < m → A i = B i) → ∀ i, mgF s C m A i = mgF s D m B i
  | 0, _, _, _, _, _, _, _, _ => rfl
  | s + 1, C, D, m, A, B, hC, hB, 0 => by
    show (if m ≠ 0 ∧ tp C 8 ≤ A 0 then A 0 else tp C 8 - 1) = (if m ≠ 0 ∧ tp D 8 ≤ B 0 then B 0 else tp D 8 - 1)
    rw [tp_cong 8 hC]
    by_cases h : m = 0
    · rw [if_neg (fun q => q.1 h), if_neg (fun q => q.1 h)]
    · rw [hB 0 (by omega)]
  | s + 1, C, D, m, A, B, hC, hB, i + 1 => by
    show (if m ≠ 0 ∧ tp C 8 ≤ A 0 then mgF s C (m - 1) (fun i => A (i + 1)) i else mgF s (tR C (tp C 8 - 1)) m A i) = (if m ≠ 0 ∧ tp D 8 ≤ B 0 then mgF s D (m - 1) (fun i => B (i + 1)) i else mgF s (tR D (tp D 8 - 1)) m B i)
    rw [tp_cong 8 hC]
    have e2 : mgF s (tR C (tp D 8 - 1)) m A i = mgF s (tR D (tp D 8 - 1)) m B i := mg_cong s (fun c hc => by unfold tR; rw [hC c hc]) hB i
    by_cases h : m = 0
    · rw [if_neg (fun q => q.1 h), if_neg (fun q => q.1 h), e2]
    · have e1 : mgF s C (m - 1) (fun i => A (i + 1)) i = mgF s D (m - 1) (fun i => B (i + 1)) i := mg_cong s hC (fun i hi => hB (i + 1) (by omega)) i
      rw [hB 0 (by omega), e1, e2]
theorem tO_s {n k : Nat} {g : Nat → Nat} {S : Nat → Bool} {b : Nat} (h : tA (tF n k g S) S 8 = b) : tO n (k + 1) g S 0 = b ∧ ∀ i, tO n (k + 1) g S (i + 1) = tO n k (tP g b n) (tR S b) i := by
  subst h; exact ⟨rfl, fun _ => rfl⟩
/-- of all bits: those that all numbers have alike stand as far ahead as can be -/
theorem tO_mg {n : Nat} (hn : 0 < n) (h64 : n ≤ 64) : ∀ (s : Nat) {g : Nat → Nat} {S V C : Nat → Bool}, tC S = s → (∀ c, c < 8 → (V c = true ↔ S c = true ∧ tV g n c)) → (∀ c, c < 8 → (C c = true ↔ S c = true ∧ ¬ tV g n c)) → ∀ i, i < s → tO n s g S i = mgF s C (tC V) (tO n (tC V) g V) i
  | 0, _, _, _, _, _, _, _, i, hi => absurd hi (Nat.not_lt_zero i)
  | s + 1, g, S, V, C, hs, hV, hC, i, hi => by
    have hvs : tC V ≤ s + 1 := by rw [← hs]; exact tC_mono (fun c hc h => ((hV c hc).mp h).1) 8 (Nat.le_refl 8)
    have h8 : tC S ≤ 8 := fb_ct_le S 8
    have hbnd : tT n (tC V) g V ≤ n * tC V := tT_le _ (Nat.le_refl _)
    have hb2 : n * tC V ≤ 512 := Nat.le_trans (Nat.mul_le_mul h64 (show tC V ≤ 8 from fb_ct_le V 8)) (by decide)
    have hall := tT_const hn h64 (s + 1) hs hV
    have hlim : tT n (tC V) g V + (s + 1 - tC V) < 100000 := by omega
    have A : ∀ b, b < 8 → V b = true → tF n s g S b = tF n (tC V - 1) g V b + (s + 1 - tC V) := fun b hb hv => by
      have hSb := (hV b hb).mp hv
      have c1 := tC_rm hb hSb.1
      have c2 := tC_rm hb hv
      have ih := tT_const hn h64 s (g := tP g b n) (S := tR S b) (V := tR V b) (by omega) (fun c hc => by
        rw [tR_iff, tR_iff, tV_p, hV c hc]
        exact ⟨fun q => ⟨⟨q.1.1, q.2⟩, q.1.2⟩, fun q => ⟨⟨q.1.1, q.2⟩, q.1.2⟩⟩)
      unfold tF
      rw [ih, show tC V - 1 = tC (tR V b) by omega]; omega
    have B : ∀ b, b < 8 → C b = true → tF n s g S b = tT n (tC V) g V + (s + 1 - tC V) := fun b hb hc => by
      obtain ⟨hsb, nv⟩ := (hC b hb).mp hc
      have c1 := tC_rm hb hsb
      have ih := tT_const hn h64 s (g := tP g b n) (S := tR S b) (V := V) (by omega) (fun c hc => by
        rw [tR_iff, tV_p, hV c hc]
        exact ⟨fun q => ⟨⟨q.1, fun e => by rw [e] at q; exact nv q.2⟩, q.2⟩, fun q => ⟨q.1.1, q.2⟩⟩)
      have c3 : tC V ≤ tC (tR S b) := tC_mono (fun c hc h => by
        have q := (hV c hc).mp h
        exact tR_iff.mpr ⟨q.1, fun e => by rw [e] at q; exact nv q.2⟩) 8 (Nat.le_refl 8)
      unfold tF
      rw [ih, rn_one hn nv, tT_cong (tC V) (g := tP g b n) (h := g) (S := V) (T := V) (fun i hi => tP_id nv hi) (fun c _ => rfl)]; omega
    have hVC : ∀ c, c < 8 → S c = true → V c = true ∨ C c = true := fun c hc h => by
      by_cases q : tV g n c
      · exact Or.inl ((hV c hc).mpr ⟨h, q⟩)
      · exact Or.inr ((hC c hc).mpr ⟨h, q⟩)
    have hmin : ∀ c, c < 8 → S c = true → tT n (tC V) g V + (s + 1 - tC V) ≤ tF n s g S c := fun c hc h => by
      rw [← hall, tT_s]; exact tM_le hc (by omega) h
    -- the greatest varied bit that is best among the varied ones
    have hvb : tC V ≠ 0 → ∃ w b, tC V = w + 1 ∧ tA (tF n w g V) V 8 = b ∧ b < 8 ∧ V b = true ∧ tF n w g V b = tT n (tC V) g V ∧ ∀ c, b < c → c < 8 → V c = true → tT n (tC V) g V < tF n w g V c := fun h0 => by
      obtain ⟨w, hw⟩ : ∃ w, tC V = w + 1 := ⟨tC V - 1, by omega⟩
      have e : tT n (tC V) g V = tM (tF n w g V) V 8 := by rw [hw]; rfl
      rcases tA_spec (F := tF n w g V) (S := V) 8 (Nat.le_refl 8) with q | ⟨q1, q2, q3, q4, q5⟩
      · omega
      · exact ⟨w, _, hw, rfl, q1, q3, by rw [e]; exact q4, fun c c1 c2 c3 => by rw [e]; exact q5 c c1 c2 c3⟩
    by_cases hcond : tC V ≠ 0 ∧ tp C 8 ≤ tO n (tC V) g V 0
    · -- the varied one comes first
      obtain ⟨w, b, hw, hab, hb, hvb1, hvb2, hvb3⟩ := hvb hcond.1
      have et := tO_s hab
      have e0 : tO n (tC V) g V 0 = b := by rw [hw]; exact et.1
      have hAb := A b hb hvb1
      rw [show tC V - 1 = w by omega, hvb2] at hAb
      have ea : tA (tF n s g S) S 8 = b := by
        refine tA_at hb ((hV b hb).mp hvb1).1 (by rw [hAb]; exact hlim) (fun c hc h => by rw [hAb]; exact hmin c hc h) (fun c c1 hc h => ?_)
        rcases hVC c hc h with q | q
        · have := A c hc q
          rw [show tC V - 1 = w by omega] at this
          have := hvb3 c c1 hc q
          omega
        · have := tp_ge q 8 hc
          rw [e0] at hcond; omega
      have es := tO_s ea
      cases i with
      | zero =>
        rw [es.1]
        show b = (if tC V ≠ 0 ∧ tp C 8 ≤ tO n (tC V) g V 0 then tO n (tC V) g V 0 else tp C 8 - 1)
        rw [if_pos hcond, e0]
      | succ i =>
        rw [es.2]
        show _ = (if tC V ≠ 0 ∧ tp C 8 ≤ tO n (tC V) g V 0 then mgF s C (tC V - 1) (fun i => tO n (tC V) g V (i + 1)) i else mgF s (tR C (tp C 8 - 1)) (tC V) (tO n (tC V) g V) i)
        rw [if_pos hcond]
        have hSb := (hV b hb).mp hvb1
        have c1 := tC_rm hb hSb.1
        have c2 := tC_rm hb hvb1
        have ih := tO_mg hn h64 s (g := tP g b n) (S := tR S b) (V := tR V b) (C := C) (by omega) (fun c hc => by
          rw [tR_iff, tR_iff, tV_p, hV c hc]
          exact ⟨fun q => ⟨⟨q.1.1, q.2⟩, q.1.2⟩, fun q => ⟨⟨q.1.1, q.2⟩, q.1.2⟩⟩) (fun c hc => by
          rw [tR_iff, tV_p, hC c hc]
          exact ⟨fun q => ⟨⟨q.1, fun e => by rw [e] at q; exact q.2 hSb.2⟩, q.2⟩, fun q => ⟨q.1.1, q.2⟩⟩) i (by omega)
        rw [ih, show tC (tR V b) = tC V - 1 by omega]
        refine mg_cong s (fun _ _ => rfl) (fun q hq => ?_) i
        rw [hw]
        show tO n w _ _ q = tO n (w + 1) g V (q + 1)
        rw [et.2]
    · -- a constant one comes first
      have hCne : 0 < tp C 8 := by
        rcases Nat.eq_zero_or_pos (tp C 8) with z | z
        · exfalso
          have hv0 : tC V = 0 := Decidable.byContradiction (fun q => hcond ⟨q, by omega⟩)
          obtain ⟨b0, hb0, hs0⟩ := tC_ex (S := S) (by omega)
          rcases hVC b0 hb0 hs0 with q | q
          · have := fb_ct_zero.mp hv0 b0 hb0
            rw [q] at this; cases this
          · have := tp_ge q 8 hb0; omega
        · exact z
      obtain ⟨b, hb⟩ : ∃ b, b = tp C 8 - 1 := ⟨_, rfl⟩
      have hb8 : b < 8 := by have := tp_le (C := C) 8; omega
      have hCb : C b = true := by rw [hb]; exact tp_at 8 hCne
      have hBb := B b hb8 hCb
      have hSb := (hC b hb8).mp hCb
      have ea : tA (tF n s g S) S 8 = b := by
        refine tA_at hb8 hSb.1 (by rw [hBb]; exact hlim) (fun c hc h => by rw [hBb]; exact hmin c hc h) (fun c c1 hc h => ?_)
        rcases hVC c hc h with q | q
        · have h0 : tC V ≠ 0 := fun z => by
            have := fb_ct_zero.mp z c hc
            rw [q] at this; cases this
          obtain ⟨w, b', hw, hab, hb', hv1, hv2, hv3⟩ := hvb h0
          have e0 : tO n (tC V) g V 0 = b' := by rw [hw]; exact (tO_s hab).1
          have hlt : b' < c := by
            rw [e0] at hcond
            have : ¬ tp C 8 ≤ b' := fun z => hcond ⟨h0, z⟩
            omega
          have h5 := A c hc q
          rw [show tC V - 1 = w by omega] at h5
          have := hv3 c hlt hc q
          omega
        · have := tp_ge q 8 hc; omega
      have es := tO_s ea
      cases i with
      | zero =>
        rw [es.1]
        show b = (if tC V ≠ 0 ∧ tp C 8 ≤ tO n (tC V) g V 0 then tO n (tC V) g V 0 else tp C 8 - 1)
        rw [if_neg hcond, hb]
      | succ i =>
        rw [es.2]
        show _ = (if tC V ≠ 0 ∧ tp C 8 ≤ tO n (tC V) g V 0 then mgF s C (tC V - 1) (fun i => tO n (tC V) g V (i + 1)) i else mgF s (tR C (tp C 8 - 1)) (tC V) (tO n (tC V) g V) i)
        rw [if_neg hcond, ← hb]
        have c1 := tC_rm hb8 hSb.1
        have ih := tO_mg hn h64 s (g := tP g b n) (S := tR S b) (V := V) (C := tR C b) (by omega) (fun c hc => by
          rw [tR_iff, tV_p, hV c hc]
          exact ⟨fun q => ⟨⟨q.1, fun e => by rw [e] at q; exact hSb.2 q.2⟩, q.2⟩, fun q => ⟨q.1.1, q.2⟩⟩) (fun c hc => by
          rw [tR_iff, tR_iff, tV_p, hC c hc]
          exact ⟨fun q => ⟨⟨q.1.1, q.2⟩, q.1.2⟩, fun q => ⟨⟨q.1.1, q.2⟩, q.1.2⟩⟩) i (by omega)
        rw [ih]
        refine mg_cong s (fun _ _ => rfl) (fun q hq => ?_) i
        exact tO_cong (tC V) (fun i hi => tP_id hSb.2 hi) (fun c _ => rfl) q
/-- of no numbers: from the greatest bit on -/
theorem rn_00 (b : Nat → Bool) : rnF b 0 = 0 := rfl
theorem tT_0n : ∀ (k : Nat) {g : Nat → Nat} {S : Nat → Bool}, k ≤ tC S → tT 0 k g S = 0
  | k, g, S, h => by have := tT_le (n := 0) k (g := g) (S := S) h; omega
theorem tO_0n : ∀ (s : Nat) {g B : Nat → Nat} {S : Nat → Bool}, tC S = s → ∀ i, i < s → tO 0 s g S i = mgF s S 0 B i
  | 0, _, _, _, _, i, hi => absurd hi (Nat.not_lt_zero i)
  | s + 1, g, B, S, hs, i, hi => by
    have hF : ∀ b, b < 8 → S b = true → tF 0 s g S b = 0 := fun b hb h => by
      have c1 := tC_rm hb h
      unfold tF
      rw [rn_00, tT_0n s (by omega)]
    obtain ⟨b0, hb0, hs0⟩ := tC_ex (S := S) (by omega)
    have hp := tp_ge hs0 8 hb0
    obtain ⟨b, hb⟩ : ∃ b, b = tp S 8 - 1 := ⟨_, rfl⟩
    have hb8 : b < 8 := by have := tp_le (C := S) 8; omega
    have hSb : S b = true := by rw [hb]; exact tp_at 8 (by omega)
    have ea : tA (tF 0 s g S) S 8 = b := tA_at hb8 hSb (by rw [hF b hb8 hSb]; decide) (fun c hc h => by rw [hF b hb8 hSb]; exact Nat.zero_le _) (fun c c1 hc h => by
      have := tp_ge h 8 hc; omega)
    have es := tO_s ea
    cases i with
    | zero =>
      rw [es.1]
      show b = (if 0 ≠ 0 ∧ tp S 8 ≤ B 0 then B 0 else tp S 8 - 1)
      rw [if_neg (fun q => q.1 rfl), hb]
    | succ i =>
      rw [es.2]
      show _ = (if 0 ≠ 0 ∧ tp S 8 ≤ B 0 then mgF s S (0 - 1) (fun i => B (i + 1)) i else mgF s (tR S (tp S 8 - 1)) 0 B i)
      rw [if_neg (fun q => q.1 rfl), ← hb]
      have c1 := tC_rm hb8 hSb
      exact tO_0n s (by omega) i (by omega)
/-- the order that is asked for -/
def thO (f : Nat → Int32) (n i : Nat) : Nat := tO n 8 (tV0 f) (fun _ => true) i
theorem thO_tie {f g : Nat → Int32} {n : Nat} (h : ∀ i, i < n → f i = g i) (i : Nat) : thO f n i = thO g n i := tO_cong 8 (fun i hi => by unfold tV0; rw [h i hi]) (fun _ _ => rfl) i
theorem thO_mg {f : Nat → Int32} {n : Nat} {V : Nat → Bool} (h64 : n ≤ 64) (hV : ∀ c, c < 8 → (V c = true ↔ tV (tV0 f) n c)) : ∀ i, i < 8 → thO f n i = mgF 8 (fun c => !V c) (tC V) (tO n (tC V) (tV0 f) V) i := by
  intro i hi
  rcases Nat.eq_zero_or_pos n with h0 | h0
  · subst h0
    have hno : ∀ c, c < 8 → V c = false := fun c hc => by
      cases e : V c
      · rfl
      · obtain ⟨i, hi, _⟩ := (hV c hc).mp e
        exact absurd hi (Nat.not_lt_zero i)
    have hz : tC V = 0 := fb_ct_zero.mpr hno
    rw [hz]
    unfold thO
    rw [tO_0n 8 (B := tO 0 0 (tV0 f) V) tC_all i hi]
    exact mg_cong 8 (fun c hc => by rw [hno c hc]; rfl) (fun i hi => absurd hi (Nat.not_lt_zero i)) i
  · refine tO_mg h0 h64 8 tC_all (fun c hc => by rw [hV c hc]; simp) (fun c hc => ?_) i hi
    cases e : V c
    · refine ⟨fun _ => ⟨rfl, fun q => ?_⟩, fun _ => rfl⟩
      rw [(hV c hc).mpr q] at e; cases e
    · refine ⟨fun q => ?_, fun q => absurd ((hV c hc).mp e) q.2⟩
      cases q
theorem thO_le (f : Nat → Int32) (n i : Nat) : thO f n i ≤ 8 := tO_le n 8 _ _ i
theorem thO_ref {f o me me' mc : Nat → Int32} {n : Nat} (h : bsW 8 100000 (0 + tT n 8 (vG f o) (uS 0)) me me' (tE mc n 8 (vG f o) (uS 0) 0)) (ho : ∀ p, p < n → o p = nI p) (h64 : n ≤ 64) : ∀ i, i < 8 → me' i = nI (thO f n i) := by
  intro i hi
  have e1 : ∀ i, i < n → vG f o i = tV0 f i := fun i hi => by
    unfold vG tV0; rw [ho i hi, nI_toInt (by omega)]; rfl
  have e2 : ∀ c, c < 8 → uS 0 c = true := fun c _ => by show (!Nat.testBit 0 c) = true; rw [Nat.zero_testBit]; rfl
  have eT : tT n 8 (vG f o) (uS 0) = thF f n := tT_cong 8 e1 e2
  have hl := thF_le f n
  have e := h.2 (by omega) i hi
  unfold tE at e
  rw [if_neg (Nat.not_lt_zero i), Nat.sub_zero] at e
  rw [e]
  exact congrArg nI (tO_cong 8 e1 e2 i)
/-- putting them together, as the class does it -/
def mgI (C : Nat → Bool) (x : Int) : Nat → Bool := fun c => C c && decide ((c : Int) ≤ x)
theorem mgI_n {C : Nat → Bool} {x y : Int} (hy : y = x - 1) (h : C x.toNat = false) (h0 : 0 ≤ x) : ∀ c, c < 8 → mgI C x c = mgI C y c := fun c _ => by
  unfold mgI
  by_cases e : (c : Int) = x
  · rw [show c = x.toNat by omega, h]; rfl
  · by_cases d : (c : Int) ≤ x
    · rw [decide_eq_true d, decide_eq_true (show (c : Int) ≤ y by omega)]
    · rw [decide_eq_false d, decide_eq_false (show ¬ (c : Int) ≤ y by omega)]
theorem mgI_y {C : Nat → Bool} {x y : Int} (hy : y = x - 1) (h0 : 0 ≤ x) : ∀ c, c < 8 → tR (mgI C x) x.toNat c = mgI C y c := fun c _ => by
  unfold tR mgI
  by_cases e : (c : Int) = x
  · rw [decide_eq_false (show ¬ c ≠ x.toNat by omega), decide_eq_false (show ¬ (c : Int) ≤ y by omega)]; simp
  · by_cases d : (c : Int) ≤ x
    · rw [decide_eq_true d, decide_eq_true (show (c : Int) ≤ y by omega), decide_eq_true (show c ≠ x.toNat by omega), Bool.and_true]
    · rw [decide_eq_false d, decide_eq_false (show ¬ (c : Int) ≤ y by omega)]; simp
theorem tp_I {C : Nat → Bool} {x : Int} (h : C x.toNat = true) (h0 : 0 ≤ x) (h7 : x ≤ 7) : tp (mgI C x) 8 = x.toNat + 1 := by
  have hx : mgI C x x.toNat = true := by unfold mgI; rw [h, decide_eq_true (show ((x.toNat : Nat) : Int) ≤ x by omega)]; rfl
  have h1 := tp_ge hx 8 (by omega)
  have h2 := tp_at (C := mgI C x) 8 (by omega)
  unfold mgI at h2
  have h3 := of_decide_eq_true ((Bool.and_eq_true _ _ ▸ h2 : C _ = true ∧ _).2)
  unfold mgI at h1 ⊢
  omega
/-- so far M, and what comes then: a places are filled, t of B are taken -/
def mgP (M : Nat → Nat) (rd : Nat → Int32) (C : Nat → Bool) (B : Nat → Nat) (v : Nat) (x : Int) (a t : Nat) : Prop := (∀ i, i < a → rd i = nI (M i)) ∧ ∀ i, i < 8 - a → M (a + i) = mgF (8 - a) (mgI C x) (v - t) (fun i => B (t + i)) i
theorem mg_0 {C : Nat → Bool} {B : Nat → Nat} {v : Nat} {rd : Nat → Int32} {x : Int} (hx : x = 7) : mgP (mgF 8 C v B) rd C B v x 0 0 := by
  refine ⟨fun i h => absurd h (Nat.not_lt_zero i), fun i _ => ?_⟩
  rw [Nat.zero_add, Nat.sub_zero, Nat.sub_zero]
  refine mg_cong 8 (fun c hc => ?_) (fun i _ => by rw [Nat.zero_add]) i
  unfold mgI
  rw [decide_eq_true (show (c : Int) ≤ x by omega), Bool.and_true]
theorem mg_skip {M B : Nat → Nat} {rd : Nat → Int32} {C : Nat → Bool} {v a t : Nat} {x y : Int} (h : mgP M rd C B v x a t) (hy : y = x - 1) (h0 : 0 ≤ x) (hc : C x.toNat = false) : mgP M rd C B v y a t :=
  ⟨h.1, fun i hi => by rw [h.2 i hi]; exact mg_cong _ (mgI_n hy hc h0) (fun _ _ => rfl) i⟩
theorem mg_var {M B : Nat → Nat} {rd rd' : Nat → Int32} {C : Nat → Bool} {v a t : Nat} {x : Int} {z : Int32} (h : mgP M rd C B v x a t) (h0 : 0 ≤ x) (h7 : x ≤ 7) (hc : C x.toNat = true) (ht : t < v) (ha : a < 8) (hb : x < (B t : Int)) (e : rd' = upd rd a z) (hz : z = nI (B t)) : mgP M rd' C B v x (a + 1) (t + 1) := by
  obtain ⟨s, hs⟩ : ∃ s, 8 - a = s + 1 := ⟨8 - a - 1, by omega⟩
  have hxt : x.toNat + 1 ≤ B t := by omega
  have hcond : v - t ≠ 0 ∧ tp (mgI C x) 8 ≤ B (t + 0) := ⟨by omega, by rw [tp_I hc h0 h7]; exact hxt⟩
  have h2 := h.2
  rw [hs] at h2
  refine ⟨fun i hi => ?_, fun i hi => ?_⟩
  · rw [e]
    by_cases c : i = a
    · have q := h2 0 (by omega)
      rw [c, pk_us, hz]
      have q2 : M (a + 0) = (if v - t ≠ 0 ∧ tp (mgI C x) 8 ≤ B (t + 0) then B (t + 0) else tp (mgI C x) 8 - 1) := q
      rw [if_pos hcond] at q2
      rw [show M a = B t from q2]
    · rw [pk_un c]; exact h.1 i (by omega)
  · have q := h2 (i + 1) (by omega)
    have q2 : M (a + (i + 1)) = (if v - t ≠ 0 ∧ tp (mgI C x) 8 ≤ B (t + 0) then mgF s (mgI C x) (v - t - 1) (fun i => B (t + (i + 1))) i else mgF s (tR (mgI C x) (tp (mgI C x) 8 - 1)) (v - t) (fun i => B (t + i)) i) := q
    rw [if_pos hcond] at q2
    rw [show a + 1 + i = a + (i + 1) by omega, q2, show 8 - (a + 1) = s by omega, show v - (t + 1) = v - t - 1 by omega]
    exact mg_cong s (fun _ _ => rfl) (fun i _ => by rw [show t + 1 + i = t + (i + 1) by omega]) i
theorem mg_con {M B : Nat → Nat} {rd rd' : Nat → Int32} {C : Nat → Bool} {v a t : Nat} {x y : Int} {z : Int32} (h : mgP M rd C B v x a t) (hy : y = x - 1) (h0 : 0 ≤ x) (h7 : x ≤ 7) (hc : C x.toNat = true) (ha : a < 8) (hb : v ≤ t ∨ (B t : Int) ≤ x) (e : rd' = upd rd a z) (hz : z = nI x.toNat) : mgP M rd' C B v y (a + 1) t := by
  obtain ⟨s, hs⟩ : ∃ s, 8 - a = s + 1 := ⟨8 - a - 1, by omega⟩
  have htp := tp_I hc h0 h7
  have hcond : ¬ (v - t ≠ 0 ∧ tp (mgI C x) 8 ≤ B (t + 0)) := fun q => by
    have q1 := q.1
    have q2 : tp (mgI C x) 8 ≤ B t := q.2
    rw [htp] at q2
    have q3 : x.toNat + 1 ≤ B t := q2
    clear q q2
    rcases hb with hb | hb
    · omega
    · omega
  have h2 := h.2
  rw [hs] at h2
  refine ⟨fun i hi => ?_, fun i hi => ?_⟩
  · rw [e]
    by_cases c : i = a
    · have q := h2 0 (by omega)
      rw [c, pk_us, hz]
      have q2 : M (a + 0) = (if v - t ≠ 0 ∧ tp (mgI C x) 8 ≤ B (t + 0) then B (t + 0) else tp (mgI C x) 8 - 1) := q
      rw [if_neg hcond, htp] at q2
      rw [show M a = x.toNat from q2]
    · rw [pk_un c]; exact h.1 i (by omega)
  · have q := h2 (i + 1) (by omega)
    have q2 : M (a + (i + 1)) = (if v - t ≠ 0 ∧ tp (mgI C x) 8 ≤ B (t + 0) then mgF s (mgI C x) (v - t - 1) (fun i => B (t + (i + 1))) i else mgF s (tR (mgI C x) (tp (mgI C x) 8 - 1)) (v - t) (fun i => B (t + i)) i) := q
    rw [if_neg hcond, htp] at q2
    rw [show a + 1 + i = a + (i + 1) by omega, q2, show 8 - (a + 1) = s by omega]
    exact mg_cong s (mgI_y hy h0) (fun _ _ => rfl) i
theorem mg_rest {B : Nat → Nat} : ∀ (s : Nat) {C : Nat → Bool} {m : Nat} {B : Nat → Nat}, tp C 8 = 0 → ∀ i, i < m → i < s → mgF s C m B i = B i
  | 0, _, _, _, _, i, _, hi => absurd hi (Nat.not_lt_zero i)
  | s + 1, C, m, B, hC, 0, hm, _ => by
    show (if m ≠ 0 ∧ tp C 8 ≤ B 0 then B 0 else tp C 8 - 1) = B 0
    rw [if_pos ⟨by omega, by omega⟩]
  | s + 1, C, m, B, hC, i + 1, hm, hi => by
    show (if m ≠ 0 ∧ tp C 8 ≤ B 0 then mgF s C (m - 1) (fun i => B (i + 1)) i else mgF s (tR C (tp C 8 - 1)) m B i) = B (i + 1)
    rw [if_pos ⟨by omega, by omega⟩]
    exact mg_rest (B := B) s hC i (by omega) (by omega)
theorem mg_end {M B : Nat → Nat} {rd rd' rb : Nat → Int32} {C : Nat → Bool} {v a t : Nat} {x : Int} (h : mgP M rd C B v x a t) (hx : x = -1) (ht : t ≤ v) (ha : a + (v - t) = 8) (hB : ∀ i, i < v → rb i = nI (B i)) (e : rd' = va_cpy rb rd t a (v - t)) : ∀ i, i < 8 → rd' i = nI (M i) := by
  intro i hi
  rw [e]
  unfold va_cpy
  by_cases c : a ≤ i ∧ i < a + (v - t)
  · rw [if_pos c, hB _ (by omega)]
    have hz : tp (mgI C x) 8 = 0 := by
      rcases Nat.eq_zero_or_pos (tp (mgI C x) 8) with z | z
      · exact z
      · have q := tp_at 8 z
        unfold mgI at q
        have q2 := of_decide_eq_true ((Bool.and_eq_true _ _ ▸ q : C _ = true ∧ _).2)
        omega
    have q := h.2 (i - a) (by omega)
    rw [mg_rest (B := B) _ hz _ (by omega) (by omega), show a + (i - a) = i by omega] at q
    rw [q]
  · rw [if_neg c]; exact h.1 i (by omega)
end GRD
