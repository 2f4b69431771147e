section GFX
/-- of the i-th by size on: those w at most above it -/
def rcP (g : Nat → Int32) (a w : Nat) : Nat → Bool := fun k => decide (a ≤ k ∧ (g k).toInt - (g a).toInt ≤ (w : Int))
theorem rc_0 {g : Nat → Int32} {a w : Nat} : fb_ct (rcP g a w) a = 0 := fb_ct_zero.mpr (fun k hk => decide_eq_false (by omega))
def mxP (R : Nat → Nat) (t k : Nat) : Prop := (t = 0 ∨ ∃ i, i < k ∧ t = R i) ∧ ∀ i, i < k → R i ≤ t
theorem mx_0 {R : Nat → Nat} : mxP R 0 0 := ⟨Or.inl rfl, fun i h => absurd h (Nat.not_lt_zero i)⟩
theorem mx_new {R : Nat → Nat} {t u k : Nat} (h : mxP R t k) (hu : u = R k) (hl : t ≤ u) : mxP R u (k + 1) := by
  refine ⟨Or.inr ⟨k, by omega, hu⟩, fun i hi => ?_⟩
  by_cases e : i = k
  · rw [e, hu]; exact Nat.le_refl _
  · have := h.2 i (by omega); omega
theorem mx_old {R : Nat → Nat} {t u k : Nat} (h : mxP R t k) (hu : u = R k) (hl : u ≤ t) : mxP R t (k + 1) := by
  refine ⟨h.1.elim Or.inl (fun ⟨i, h1, h2⟩ => Or.inr ⟨i, by omega, h2⟩), fun i hi => ?_⟩
  by_cases e : i = k
  · rw [e, ← hu]; exact hl
  · exact h.2 i (by omega)
/-- how many numbers are v .. v + w -/
def dnN (c : Nat → Nat) (w v : Nat) : Nat := fb_sm c (min (v + w) 255 + 1) - fb_sm c v
def dnP (c : Nat → Nat) (w n t : Nat) : Prop := (n = 0 ∧ t = 0) ∨ ((∃ v, v < 256 ∧ c v ≠ 0 ∧ t = dnN c w v) ∧ ∀ v, v < 256 → c v ≠ 0 → dnN c w v ≤ t)
theorem sr_val {g : Nat → Int32} {c : Nat → Nat} {k : Nat} (H : SRV g c 256) (hk : k < fb_sm c 256) : ∃ v : Nat, v < 256 ∧ (g k).toInt = (v : Int) ∧ fb_sm c v ≤ k ∧ k < fb_sm c (v + 1) := by
  obtain ⟨v, h1, h2, h3⟩ := slot_ex 256 hk
  exact ⟨v, h1, by rw [H v h1 k h2 h3]; exact nI_toInt (by omega), h2, h3⟩
theorem rc_eq {g : Nat → Int32} {c : Nat → Nat} {i w v : Nat} (H : SRV g c 256) (hi : i < fb_sm c 256) (hv : v < 256) (e : (g i).toInt = (v : Int)) (h1 : fb_sm c v ≤ i) (h2 : i < fb_sm c (v + 1)) : fb_ct (rcP g i w) (fb_sm c 256) = fb_sm c (min (v + w) 255 + 1) - i := by
  have m1 := sm_mono c (show min (v + w) 255 + 1 ≤ 256 by omega)
  have m2 := sm_mono c (show v + 1 ≤ min (v + w) 255 + 1 by omega)
  have hk : ∀ k, k < fb_sm c 256 → rcP g i w k = decide (i ≤ k ∧ k < fb_sm c (min (v + w) 255 + 1)) := fun k hk => by
    obtain ⟨u, u1, u2, u3, u4⟩ := sr_val H hk
    unfold rcP
    rw [u2, e]
    by_cases q : u ≤ min (v + w) 255
    · have := sm_mono c (show u + 1 ≤ min (v + w) 255 + 1 by omega)
      by_cases d : i ≤ k
      · rw [decide_eq_true (by omega), decide_eq_true (by omega)]
      · rw [decide_eq_false (by omega), decide_eq_false (by omega)]
    · have := sm_mono c (show min (v + w) 255 + 1 ≤ u by omega)
      rw [decide_eq_false (by omega), decide_eq_false (by omega)]
  rw [fb_ct_cong hk]
  have cnt : ∀ n, n ≤ fb_sm c 256 → fb_ct (fun k => decide (i ≤ k ∧ k < fb_sm c (min (v + w) 255 + 1))) n = min n (fb_sm c (min (v + w) 255 + 1)) - i := fun n hn => by
    induction n with
    | zero => show 0 = _; omega
    | succ n ih =>
      rw [fb_ct_succ, ih (by omega)]
      by_cases d : i ≤ n ∧ n < fb_sm c (min (v + w) 255 + 1)
      · rw [if_pos (decide_eq_true d)]; omega
      · rw [if_neg (by rw [decide_eq_false d]; decide)]; omega
  rw [cnt _ (Nat.le_refl _)]; omega
theorem dn_c {g : Nat → Int32} {c : Nat → Nat} {w n t : Nat} (H : SRV g c 256) (hs : fb_sm c 256 = n) (h : mxP (fun i => fb_ct (rcP g i w) n) t n) : dnP c w n t := by
  subst hs
  by_cases h0 : fb_sm c 256 = 0
  · left
    refine ⟨h0, ?_⟩
    rcases h.1 with e | ⟨i, h1, _⟩
    · exact e
    · omega
  · right
    have up : ∀ i, i < fb_sm c 256 → ∃ v, v < 256 ∧ c v ≠ 0 ∧ fb_ct (rcP g i w) (fb_sm c 256) ≤ dnN c w v := fun i hi => by
      obtain ⟨v, v1, v2, v3, v4⟩ := sr_val H hi
      rw [fb_sm_succ] at v4
      refine ⟨v, v1, by omega, ?_⟩
      rw [rc_eq H hi v1 v2 v3 (by rw [fb_sm_succ]; omega)]; unfold dnN; omega
    have lo : ∀ v, v < 256 → c v ≠ 0 → dnN c w v ≤ t := fun v hv hc => by
      have m := fb_sm_part c hv
      have hi : fb_sm c v < fb_sm c 256 := by omega
      have e := H v hv (fb_sm c v) (Nat.le_refl _) (by rw [fb_sm_succ]; omega)
      have q := h.2 (fb_sm c v) hi
      have q2 : fb_ct (rcP g (fb_sm c v) w) (fb_sm c 256) = fb_sm c (min (v + w) 255 + 1) - fb_sm c v := rc_eq H hi hv (by rw [e]; exact nI_toInt (by omega)) (Nat.le_refl _) (by rw [fb_sm_succ]; omega)
      have q3 : fb_ct (rcP g (fb_sm c v) w) (fb_sm c 256) ≤ t := q
      unfold dnN; omega
    refine ⟨?_, lo⟩
    rcases h.1 with e | ⟨i, h1, h2⟩
    · obtain ⟨v, v1, v2, v3, v4⟩ := sr_val H (show 0 < fb_sm c 256 by omega)
      rw [fb_sm_succ] at v4
      have q := lo v v1 (by omega)
      exact ⟨v, v1, by omega, by omega⟩
    · obtain ⟨v, v1, v2, v3⟩ := up i h1
      have q := lo v v1 v2
      have h3 : t = fb_ct (rcP g i w) (fb_sm c 256) := h2
      exact ⟨v, v1, v2, by omega⟩
theorem dn_r {g : Nat → Int32} {c : Nat → Nat} {w n t : Nat} (H : SRV g c 256) (hs : fb_sm c 256 = n) (h : mxP (fun i => dnN c w (g i).toInt.toNat) t n) : dnP c w n t := by
  subst hs
  by_cases h0 : fb_sm c 256 = 0
  · left
    refine ⟨h0, ?_⟩
    rcases h.1 with e | ⟨i, h1, _⟩
    · exact e
    · omega
  · right
    have lo : ∀ v, v < 256 → c v ≠ 0 → dnN c w v ≤ t := fun v hv hc => by
      have m := fb_sm_part c hv
      have hi : fb_sm c v < fb_sm c 256 := by omega
      have e := H v hv (fb_sm c v) (Nat.le_refl _) (by rw [fb_sm_succ]; omega)
      have q : dnN c w (g (fb_sm c v)).toInt.toNat ≤ t := h.2 (fb_sm c v) hi
      rw [e, nI_toInt (by omega)] at q; exact q
    refine ⟨?_, lo⟩
    rcases h.1 with e | ⟨i, h1, h2⟩
    · obtain ⟨v, v1, v2, v3, v4⟩ := sr_val H (show 0 < fb_sm c 256 by omega)
      rw [fb_sm_succ] at v4
      have q := lo v v1 (by omega)
      exact ⟨v, v1, by omega, by omega⟩
    · obtain ⟨v, v1, v2, v3, v4⟩ := sr_val H h1
      rw [fb_sm_succ] at v4
      refine ⟨v, v1, by omega, ?_⟩
      have h3 : t = dnN c w (g i).toInt.toNat := h2
      rw [h3, v2]; rfl
/-- rising choices: how long one that ends at p is, as far as q has been asked -/
def rf (L : Nat → Nat) (f : Nat → Int32) (a p : Nat) : Nat → Nat
  | 0 => 1
  | q + 1 => if a ≤ q ∧ (f q).toInt < (f p).toInt ∧ rf L f a p q < L q + 1 then L q + 1 else rf L f a p q
theorem rf_0 {L : Nat → Nat} {f : Nat → Int32} {a p : Nat} : ∀ {q : Nat}, q ≤ a → rf L f a p q = 1
  | 0, _ => rfl
  | q + 1, h => by
    show (if a ≤ q ∧ (f q).toInt < (f p).toInt ∧ rf L f a p q < L q + 1 then L q + 1 else rf L f a p q) = 1
    rw [if_neg (by omega)]; exact rf_0 (by omega)
theorem rf_y {L : Nat → Nat} {f : Nat → Int32} {a p q t : Nat} (h : t = rf L f a p q) (ha : a ≤ q) (d : (f q).toInt < (f p).toInt) (hl : t < L q + 1) : L q + 1 = rf L f a p (q + 1) := by
  show _ = (if a ≤ q ∧ (f q).toInt < (f p).toInt ∧ rf L f a p q < L q + 1 then L q + 1 else rf L f a p q)
  rw [if_pos ⟨ha, d, by omega⟩]
theorem rf_n {L : Nat → Nat} {f : Nat → Int32} {a p q t : Nat} (h : t = rf L f a p q) (d : ¬ (f q).toInt < (f p).toInt ∨ L q + 1 ≤ t) : t = rf L f a p (q + 1) := by
  show _ = (if a ≤ q ∧ (f q).toInt < (f p).toInt ∧ rf L f a p q < L q + 1 then L q + 1 else rf L f a p q)
  rw [if_neg (by omega), h]
theorem rf_cong {L K : Nat → Nat} {f g : Nat → Int32} {a p : Nat} (hp : f p = g p) : ∀ {q : Nat}, (∀ i, i < q → L i = K i ∧ f i = g i) → rf L f a p q = rf K g a p q
  | 0, _ => rfl
  | q + 1, h => by
    show (if a ≤ q ∧ (f q).toInt < (f p).toInt ∧ rf L f a p q < L q + 1 then L q + 1 else rf L f a p q) = (if a ≤ q ∧ (g q).toInt < (g p).toInt ∧ rf K g a p q < K q + 1 then K q + 1 else rf K g a p q)
    rw [rf_cong hp (fun i hi => h i (by omega)), (h q (by omega)).1, (h q (by omega)).2, hp]
theorem rf_le {L : Nat → Nat} {f : Nat → Int32} {a p : Nat} (hL : ∀ i, L i ≤ i + 1) : ∀ q, rf L f a p q ≤ q + 1
  | 0 => Nat.le_refl 1
  | q + 1 => by
    show (if a ≤ q ∧ (f q).toInt < (f p).toInt ∧ rf L f a p q < L q + 1 then L q + 1 else rf L f a p q) ≤ q + 1 + 1
    have h1 := rf_le (f := f) (a := a) (p := p) hL q
    have h2 := hL q
    split <;> omega
def RT (f : Nat → Int32) (a : Nat) : Nat → Nat → Nat
  | 0, _ => 0
  | p + 1, q => if q = p then rf (RT f a p) f a p p else RT f a p q
def LSq (f : Nat → Int32) (a p : Nat) : Nat := RT f a (p + 1) p
theorem RT_LS {f : Nat → Int32} {a q : Nat} : ∀ {p : Nat}, q < p → RT f a p q = LSq f a q
  | 0, h => absurd h (Nat.not_lt_zero q)
  | p + 1, h => by
    by_cases e : q = p
    · rw [e]; rfl
    · show (if q = p then rf (RT f a p) f a p p else RT f a p q) = _
      rw [if_neg e]; exact RT_LS (by omega)
theorem LS_eq {f : Nat → Int32} {a p : Nat} : LSq f a p = rf (LSq f a) f a p p := by
  show (if p = p then rf (RT f a p) f a p p else RT f a p p) = _
  rw [if_pos rfl]
  exact rf_cong rfl (fun i hi => ⟨RT_LS hi, rfl⟩)
theorem LS_le {f : Nat → Int32} {a : Nat} : ∀ p, LSq f a p ≤ p + 1 := by
  intro p
  induction p using Nat.strongRecOn with
  | _ p ih =>
    rw [LS_eq, rf_cong (K := fun i => if i < p then LSq f a i else 0) (g := f) rfl (fun i hi => ⟨by show _ = if i < p then _ else _; rw [if_pos hi], rfl⟩)]
    exact rf_le (fun i => by
      show (if i < p then LSq f a i else 0) ≤ i + 1
      by_cases c : i < p
      · rw [if_pos c]; exact ih i c
      · rw [if_neg c]; omega) p
theorem rf_LSle {f : Nat → Int32} {a p : Nat} : ∀ q, rf (LSq f a) f a p q ≤ q + 1 := rf_le (fun i => LS_le i)
def lmF (f : Nat → Int32) (a : Nat) : Nat → Nat
  | 0 => 0
  | k + 1 => if a ≤ k then max (lmF f a k) (LSq f a k) else lmF f a k
theorem lm_0 {f : Nat → Int32} {a : Nat} : ∀ {k : Nat}, k ≤ a → lmF f a k = 0
  | 0, _ => rfl
  | k + 1, h => by
    show (if a ≤ k then max (lmF f a k) (LSq f a k) else lmF f a k) = 0
    rw [if_neg (by omega)]; exact lm_0 (by omega)
theorem lm_s {f : Nat → Int32} {a k : Nat} {x y : Int} {t : Nat} (h : x = ((lmF f a k : Nat) : Int)) (ha : a ≤ k) (ht : t = LSq f a k) (hy : (y = x ∧ (t : Int) ≤ x) ∨ (y = (t : Int) ∧ x ≤ (t : Int))) : y = ((lmF f a (k + 1) : Nat) : Int) := by
  show y = (((if a ≤ k then max (lmF f a k) (LSq f a k) else lmF f a k) : Nat) : Int)
  rw [if_pos ha, ← ht]; omega
theorem ri_1 {g g' : Nat → Int32} {k : Nat} (e : g' = upd g k 1) : g' k = nI 1 := by rw [e, pk_us]; rfl
theorem ri_o {g g' : Nat → Int32} {k q : Nat} {x y : Int32} (e : g' = upd g k x) (h : q ≠ k) (hq : g q = y) : g' q = y := by rw [e, pk_un h]; exact hq
theorem ri_y {g g' : Nat → Int32} {k t u : Nat} {x : Int32} (e : g' = upd g k x) (hx : x = nI t) (h : t = u) : g' k = nI u := by rw [e, pk_us, hx, h]
end GFX
