section GFT
/-- numbers in a row: a bit of theirs; the row as that bit parts it -/
def tB (g : Nat → Nat) (b i : Nat) : Bool := (g i).testBit b
def tP (g : Nat → Nat) (b n i : Nat) : Nat := g (nxi (tB g b) n i)
/-- the least of F over the bits of S, from 7 on, as far as m of them have been asked -/
def tM (F : Nat → Nat) (S : Nat → Bool) : Nat → Nat
  | 0 => 100000
  | m + 1 => if S (7 - m) = true then min (tM F S m) (F (7 - m)) else tM F S m
def tR (S : Nat → Bool) (b : Nat) : Nat → Bool := fun c => S c && decide (c ≠ b)
/-- the fewest runs with k bits out of S -/
def tT (n : Nat) : Nat → (Nat → Nat) → (Nat → Bool) → Nat
  | 0, _, _ => 0
  | k + 1, g, S => tM (fun b => rnF (tB g b) n + tT n k (tP g b n) (tR S b)) S 8
def tF (n k : Nat) (g : Nat → Nat) (S : Nat → Bool) (b : Nat) : Nat := rnF (tB g b) n + tT n k (tP g b n) (tR S b)
theorem tT_s {n k : Nat} {g : Nat → Nat} {S : Nat → Bool} : tT n (k + 1) g S = tM (tF n k g S) S 8 := rfl
theorem tM_yes {F : Nat → Nat} {S : Nat → Bool} {m : Nat} (h : S (7 - m) = true) : tM F S (m + 1) = min (tM F S m) (F (7 - m)) := by
  show (if S (7 - m) = true then min (tM F S m) (F (7 - m)) else tM F S m) = _
  rw [if_pos h]
theorem tM_no {F : Nat → Nat} {S : Nat → Bool} {m : Nat} (h : S (7 - m) = false) : tM F S (m + 1) = tM F S m := by
  show (if S (7 - m) = true then min (tM F S m) (F (7 - m)) else tM F S m) = _
  rw [if_neg (by rw [h]; decide)]
theorem tM_cong {F G : Nat → Nat} {S T : Nat → Bool} (hS : ∀ b, b < 8 → S b = T b) (h : ∀ b, b < 8 → S b = true → F b = G b) : ∀ m, m ≤ 8 → tM F S m = tM G T m
  | 0, _ => rfl
  | m + 1, hm => by
    have ih := tM_cong hS h m (by omega)
    have hb : 7 - m < 8 := by omega
    cases hs : S (7 - m)
    · rw [tM_no hs, tM_no (by rw [← hS _ hb]; exact hs), ih]
    · rw [tM_yes hs, tM_yes (by rw [← hS _ hb]; exact hs), ih, h _ hb hs]
theorem tM_le {F : Nat → Nat} {S : Nat → Bool} : ∀ {m b : Nat}, b < 8 → 7 - b < m → S b = true → tM F S m ≤ F b
  | 0, _, _, h, _ => absurd h (Nat.not_lt_zero _)
  | m + 1, b, hb, h, hs => by
    by_cases e : 7 - m = b ∧ m ≤ 7
    · rw [tM_yes (by rw [e.1]; exact hs), e.1]; exact Nat.min_le_right _ _
    · by_cases hm : 7 - b < m
      · have ih := tM_le hb hm hs (F := F)
        cases hx : S (7 - m)
        · rw [tM_no hx]; exact ih
        · rw [tM_yes hx]; exact Nat.le_trans (Nat.min_le_left _ _) ih
      · exact absurd (by omega) e
theorem tM_at {F : Nat → Nat} {S : Nat → Bool} : ∀ m, m ≤ 8 → tM F S m = 100000 ∨ ∃ b, b < 8 ∧ S b = true ∧ tM F S m = F b
  | 0, _ => Or.inl rfl
  | m + 1, hm => by
    cases hx : S (7 - m)
    · rw [tM_no hx]; exact tM_at m (by omega)
    · rw [tM_yes hx]
      rcases Nat.le_total (tM F S m) (F (7 - m)) with h | h
      · rw [Nat.min_eq_left h]; exact tM_at m (by omega)
      · rw [Nat.min_eq_right h]; exact Or.inr ⟨7 - m, by omega, hx, rfl⟩
theorem tM_ge {F : Nat → Nat} {S : Nat → Bool} {L m : Nat} (hm : m ≤ 8) (hL : L ≤ 100000) (h : ∀ b, b < 8 → S b = true → L ≤ F b) : L ≤ tM F S m := by
  rcases tM_at (F := F) (S := S) m hm with e | ⟨b, b1, b2, b3⟩
  · rw [e]; exact hL
  · rw [b3]; exact h b b1 b2
theorem nxi_cong {b c : Nat → Bool} {n i : Nat} (hi : i < n) (h : ∀ k, k < n → b k = c k) : nxi b n i = nxi c n i := by
  have h1 := nxi_spec (b := b) hi
  have h2 := nxi_spec (b := c) hi
  refine nxb_inj (b := c) h1.1 h2.1 ?_
  rw [h2.2, ← nxb_cong h1.1 h, h1.2]
theorem tB_cong {g h : Nat → Nat} {n b i : Nat} (e : ∀ i, i < n → g i = h i) (hi : i < n) : tB g b i = tB h b i := by unfold tB; rw [e i hi]
theorem tP_cong {g h : Nat → Nat} {n b i : Nat} (e : ∀ i, i < n → g i = h i) (hi : i < n) : tP g b n i = tP h b n i := by
  unfold tP
  rw [nxi_cong hi (fun k hk => tB_cong e hk)]
  exact e _ (nxi_spec hi).1
theorem tT_cong {n : Nat} : ∀ (k : Nat) {g h : Nat → Nat} {S T : Nat → Bool}, (∀ i, i < n → g i = h i) → (∀ b, b < 8 → S b = T b) → tT n k g S = tT n k h T
  | 0, _, _, _, _, _, _ => rfl
  | k + 1, g, h, S, T, e, hS => by
    rw [tT_s, tT_s]
    refine tM_cong hS (fun b hb _ => ?_) 8 (Nat.le_refl 8)
    unfold tF
    rw [rn_cong (b := tB g b) (c := tB h b) (fun i hi => tB_cong e hi), tT_cong k (g := tP g b n) (h := tP h b n) (S := tR S b) (T := tR T b) (fun i hi => tP_cong e hi) (fun c hc => by unfold tR; rw [hS c hc])]
theorem tP_at {g : Nat → Nat} {b n k : Nat} (hk : k < n) : tP g b n (nxb (tB g b) n k) = g k := by
  unfold tP; rw [nxi_nxb hk]
/-- a bit that isn't alike in all -/
def tV (g : Nat → Nat) (n b : Nat) : Prop := ∃ i, i < n ∧ ∃ k, k < n ∧ tB g b i ≠ tB g b k
theorem tV_p {g : Nat → Nat} {n b c : Nat} : tV (tP g b n) n c ↔ tV g n c := by
  constructor
  · rintro ⟨i, hi, k, hk, h⟩
    exact ⟨nxi (tB g b) n i, (nxi_spec hi).1, nxi (tB g b) n k, (nxi_spec hk).1, h⟩
  · rintro ⟨i, hi, k, hk, h⟩
    refine ⟨nxb (tB g b) n i, nxb_lt hi, nxb (tB g b) n k, nxb_lt hk, ?_⟩
    unfold tB at h ⊢
    show ((tP g b n (nxb (tB g b) n i)).testBit c) ≠ ((tP g b n (nxb (tB g b) n k)).testBit c)
    rw [tP_at hi, tP_at hk]; exact h
theorem al_0 {b : Nat → Bool} : ∀ {m : Nat}, (∀ i, i < m → (b i ^^ b (i + 1)) = false) → ∀ i, i ≤ m → b i = b 0
  | _, _, 0, _ => rfl
  | m, h, i + 1, hi => by
    have h1 := al_0 h i (by omega)
    have h2 := h i (by omega)
    rw [← h1]
    cases e : b i <;> cases e2 : b (i + 1) <;> rw [e, e2] at h2 <;> first | rfl | cases h2
theorem rn_two {g : Nat → Nat} {n b : Nat} (h : tV g n b) : 2 ≤ rnF (tB g b) n := by
  obtain ⟨i, hi, k, hk, hne⟩ := h
  unfold rnF
  rw [if_neg (by omega)]
  rcases Nat.eq_zero_or_pos (fb_ct (fun i => tB g b i ^^ tB g b (i + 1)) (n - 1)) with z | z
  · have z1 := fb_ct_zero.mp z
    exact absurd ((al_0 z1 i (by omega)).trans (al_0 z1 k (by omega)).symm) hne
  · omega
theorem rn_one {g : Nat → Nat} {n b : Nat} (hn : 0 < n) (h : ¬ tV g n b) : rnF (tB g b) n = 1 := by
  unfold rnF
  rw [if_neg (by omega)]
  have z : fb_ct (fun i => tB g b i ^^ tB g b (i + 1)) (n - 1) = 0 := fb_ct_zero.mpr (fun i hi => by
    have e : tB g b i = tB g b (i + 1) := Decidable.byContradiction (fun q => h ⟨i, by omega, i + 1, by omega, q⟩)
    show (tB g b i ^^ tB g b (i + 1)) = false
    rw [e, Bool.xor_self])
  rw [z]
/-- how many bits -/
def tC (S : Nat → Bool) : Nat := fb_ct S 8
theorem ct_one9 {p q : Nat → Bool} {v : Nat} (hp : p v = false) (hq : q v = true) : ∀ {n : Nat}, (∀ u, u < n → u ≠ v → p u = q u) → fb_ct q n = fb_ct p n + (if v < n then 1 else 0)
  | 0, _ => rfl
  | n + 1, h => by
    rw [fb_ct_succ, fb_ct_succ, ct_one9 hp hq (n := n) (fun u hu => h u (by omega))]
    by_cases e : n = v
    · subst e; rw [hp, hq, if_neg (Nat.lt_irrefl n), if_pos (Nat.lt_succ_self n)]; rfl
    · rw [h n (Nat.lt_succ_self n) e]
      by_cases c : v < n
      · rw [if_pos c, if_pos (show v < n + 1 by omega)]; omega
      · rw [if_neg c, if_neg (show ¬ v < n + 1 by omega)]; rfl
theorem tC_rm {S : Nat → Bool} {b : Nat} (hb : b < 8) (h : S b = true) : tC S = tC (tR S b) + 1 := by
  unfold tC
  rw [ct_one9 (p := tR S b) (q := S) (v := b) (by unfold tR; rw [decide_eq_false (by omega), Bool.and_false]) h (fun u _ hu => by unfold tR; rw [decide_eq_true hu, Bool.and_true]), if_pos hb]
theorem tC_ex {S : Nat → Bool} (h : 0 < tC S) : ∃ b, b < 8 ∧ S b = true := by
  obtain ⟨i, h1, h2, -⟩ := fb_ct_kth (p := S) (n := 8) (k := 0) h
  exact ⟨i, h1, h2⟩
theorem tC_mono {S T : Nat → Bool} (h : ∀ c, c < 8 → S c = true → T c = true) : ∀ n, n ≤ 8 → fb_ct S n ≤ fb_ct T n
  | 0, _ => Nat.le_refl 0
  | n + 1, hn => by
    have ih := tC_mono h n (by omega)
    rw [fb_ct_succ, fb_ct_succ]
    cases hs : S n
    · simp; omega
    · rw [h n (by omega) hs]; simp; omega
theorem tT_le {n : Nat} : ∀ (k : Nat) {g : Nat → Nat} {S : Nat → Bool}, k ≤ tC S → tT n k g S ≤ n * k
  | 0, _, _, _ => Nat.zero_le _
  | k + 1, g, S, h => by
    obtain ⟨b, hb, hs⟩ := tC_ex (S := S) (by omega)
    rw [tT_s]
    refine Nat.le_trans (tM_le hb (by omega) hs) ?_
    have h1 := tC_rm hb hs
    have h2 := tT_le (n := n) k (g := tP g b n) (S := tR S b) (by omega)
    have h3 := rnF_le (tB g b) n
    unfold tF
    rw [Nat.mul_succ]; omega
theorem tT_ge {n : Nat} : ∀ (k : Nat) {g : Nat → Nat} {S : Nat → Bool}, k ≤ 8 → (∀ c, c < 8 → S c = true → tV g n c) → 2 * k ≤ tT n k g S
  | 0, _, _, _, _ => Nat.zero_le _
  | k + 1, g, S, hk, h => by
    rw [tT_s]
    refine tM_ge (Nat.le_refl 8) (by omega) (fun b hb hs => ?_)
    have h1 := rn_two (h b hb hs)
    have h2 := tT_ge (n := n) k (g := tP g b n) (S := tR S b) (by omega) (fun c hc hq => tV_p.mpr (h c hc (by unfold tR at hq; exact (Bool.and_eq_true _ _ ▸ hq : S c = true ∧ _).1)))
    unfold tF; omega
theorem tR_iff {S : Nat → Bool} {b c : Nat} : tR S b c = true ↔ S c = true ∧ c ≠ b := by
  unfold tR; rw [Bool.and_eq_true, decide_eq_true_iff]
/-- a bit that all have alike parts nothing -/
theorem tP_id {g : Nat → Nat} {n b i : Nat} (h : ¬ tV g n b) (hi : i < n) : tP g b n i = g i := by
  have e : ∀ k, k < n → tB g b k = tB g b 0 := fun k hk => Decidable.byContradiction (fun q => h ⟨k, hk, 0, by omega, q⟩)
  have hx : nxb (tB g b) n i = i := by
    rw [nxb_cong (c := fun _ => tB g b 0) hi e]
    unfold nxb
    cases tB g b 0
    · have z : ∀ m, fb_ct (fun _ => false) m = 0 := fun m => fb_ct_zero.mpr (fun _ _ => rfl)
      rw [if_neg (show ¬ (false = true) from Bool.false_ne_true), z]; omega
    · have z : ∀ m, fb_ct (fun _ => true) m = m := fun m => by
        induction m with
        | zero => rfl
        | succ m ih => rw [fb_ct_succ, ih]; rfl
      rw [if_pos rfl, z, z]; omega
  unfold tP
  have h2 : nxi (tB g b) n i = i := by
    have h3 := nxi_nxb (b := tB g b) hi
    rw [hx] at h3; exact h3
  rw [h2]
/-- bits that all have alike: one run each, wherever they are asked for -/
theorem tT_const {n : Nat} (hn : 0 < n) (h64 : n ≤ 64) : ∀ (s : Nat) {g : Nat → Nat} {S V : Nat → Bool}, tC S = s → (∀ c, c < 8 → (V c = true ↔ S c = true ∧ tV g n c)) → tT n s g S = tT n (tC V) g V + (s - tC V)
  | 0, g, S, V, hs, hV => by
    have : tC V = 0 := fb_ct_zero.mpr (fun c hc => by
      cases e : V c
      · rfl
      · have h1 := fb_ct_zero.mp hs c hc
        rw [((hV c hc).mp e).1] at h1; cases h1)
    rw [this]; rfl
  | s + 1, g, S, V, hs, hV => by
    have hvs : tC V ≤ s + 1 := by rw [← hs]; exact tC_mono (fun c hc h => ((hV c hc).mp h).1) 8 (Nat.le_refl 8)
    have h8 : tC S ≤ 8 := fb_ct_le S 8
    have hbnd : tT n (tC V) g V ≤ n * tC V := tT_le _ (Nat.le_refl _)
    have hb2 : n * tC V ≤ 512 := Nat.le_trans (Nat.mul_le_mul h64 (show tC V ≤ 8 from fb_ct_le V 8)) (by decide)
    have A : ∀ b, b < 8 → V b = true → tF n s g S b = tF n (tC V - 1) g V b + (s + 1 - tC V) := fun b hb hv => by
      have hSb := (hV b hb).mp hv
      have c1 := tC_rm hb hSb.1
      have c2 := tC_rm hb hv
      have ih := tT_const hn h64 s (g := tP g b n) (S := tR S b) (V := tR V b) (by omega) (fun c hc => by
        rw [tR_iff, tR_iff, tV_p, hV c hc]
        exact ⟨fun q => ⟨⟨q.1.1, q.2⟩, q.1.2⟩, fun q => ⟨⟨q.1.1, q.2⟩, q.1.2⟩⟩)
      unfold tF
      rw [ih, show tC V - 1 = tC (tR V b) by omega]; omega
    have B : ∀ b, b < 8 → S b = true → V b = false → tF n s g S b = tT n (tC V) g V + (s + 1 - tC V) := fun b hb hsb hv => by
      have nv : ¬ tV g n b := fun q => by rw [(hV b hb).mpr ⟨hsb, q⟩] at hv; cases hv
      have c1 := tC_rm hb hsb
      have ih := tT_const hn h64 s (g := tP g b n) (S := tR S b) (V := V) (by omega) (fun c hc => by
        rw [tR_iff, tV_p, hV c hc]
        exact ⟨fun q => ⟨⟨q.1, fun e => by rw [e] at q; exact nv q.2⟩, q.2⟩, fun q => ⟨q.1.1, q.2⟩⟩)
      have c3 : tC V ≤ tC (tR S b) := tC_mono (fun c hc h => by
        have q := (hV c hc).mp h
        exact tR_iff.mpr ⟨q.1, fun e => by rw [e] at q; exact nv q.2⟩) 8 (Nat.le_refl 8)
      unfold tF
      rw [ih, rn_one hn nv, tT_cong (tC V) (g := tP g b n) (h := g) (S := V) (T := V) (fun i hi => tP_id nv hi) (fun c _ => rfl)]; omega
    rw [tT_s]
    obtain ⟨b0, hb0, hs0⟩ := tC_ex (S := S) (by omega)
    by_cases hz : tC V = 0
    · have hnV : ∀ b, b < 8 → V b = false := fb_ct_zero.mp hz
      have e0 := B b0 hb0 hs0 (hnV b0 hb0)
      refine Nat.le_antisymm ?_ (tM_ge (Nat.le_refl 8) (by omega) (fun b hb hs => by rw [B b hb hs (hnV b hb)]; exact Nat.le_refl _))
      rw [← e0]; exact tM_le hb0 (by omega) hs0
    · obtain ⟨w, hw⟩ : ∃ w, tC V = w + 1 := ⟨tC V - 1, by omega⟩
      have eG : tT n (tC V) g V = tM (tF n (tC V - 1) g V) V 8 := by rw [hw]; rfl
      refine Nat.le_antisymm ?_ (tM_ge (Nat.le_refl 8) (by omega) (fun b hb hs => ?_))
      · rcases tM_at (F := tF n (tC V - 1) g V) (S := V) 8 (Nat.le_refl 8) with e | ⟨b, b1, b2, b3⟩
        · rw [← eG] at e; omega
        · rw [eG, b3, ← A b b1 b2]; exact tM_le b1 (by omega) ((hV b b1).mp b2).1
      · cases hv : V b
        · rw [B b hb hs hv]; exact Nat.le_refl _
        · rw [A b hb hv, eG]; exact Nat.add_le_add_right (tM_le hb (by omega) hv) _
/-- the fewest runs of all orders -/
def tV0 (f : Nat → Int32) (i : Nat) : Nat := (f i).toInt.toNat
def thF (f : Nat → Int32) (n : Nat) : Nat := tT n 8 (tV0 f) (fun _ => true)
theorem tC_all : tC (fun _ => true) = 8 := by decide
theorem thF_le (f : Nat → Int32) (n : Nat) : thF f n ≤ n * 8 := tT_le 8 (by rw [tC_all]; exact Nat.le_refl 8)
theorem thF_c {f : Nat → Int32} {n : Nat} {V : Nat → Bool} (hn : 0 < n) (h64 : n ≤ 64) (hV : ∀ c, c < 8 → (V c = true ↔ tV (tV0 f) n c)) : thF f n = tT n (tC V) (tV0 f) V + (8 - tC V) := tT_const hn h64 8 tC_all (fun c hc => by rw [hV c hc]; simp)
end GFT
section GFT2
/-- the reference: what it has found so far -/
def fwR (x : Int32) (F : Nat) : Prop := (x.toInt = -1 ∧ F = 100000) ∨ (x.toInt = (F : Int) ∧ F ≤ 512)
def vG (f o : Nat → Int32) (i : Nat) : Nat := (f (o i).toInt.toNat).toInt.toNat
def uS (U : Nat) : Nat → Bool := fun c => !U.testBit c
theorem th_prune {e : Int32} {F ra T : Nat} (h : fwR e F) (h0 : 0 ≤ e.toInt) (hr : e.toInt ≤ (ra : Int)) : fwR e (min F (ra + T)) := by
  rcases h with ⟨h1, h2⟩ | ⟨h1, h2⟩
  · omega
  · rw [Nat.min_eq_left (by omega)]; exact Or.inr ⟨h1, h2⟩
theorem th_set {e : Int32} {F ra : Nat} (h : fwR e F) (hr : e.toInt < 0 ∨ (ra : Int) < e.toInt) (h5 : ra ≤ 512) : fwR (nI ra) (min F (ra + 0)) := by
  have : min F (ra + 0) = ra := by rcases h with ⟨h1, h2⟩ | ⟨h1, h2⟩ <;> omega
  rw [this]; exact Or.inr ⟨nI_toInt (by omega), h5⟩
theorem th_0 {e : Int32} {F ra : Nat} {G : Nat → Nat} {S : Nat → Bool} (h : fwR e F) : fwR e (min F (ra + tM G S 0)) := by
  have : min F (ra + tM G S 0) = F := by
    have e9 : tM G S 0 = 100000 := rfl
    rw [e9]; rcases h with ⟨h1, h2⟩ | ⟨h1, h2⟩ <;> omega
  rw [this]; exact h
theorem su_f {U w : Nat} {x : Int} (d : ((U / 2 ^ w % 2 : Nat) : Int) ≠ 0) (hx : x = (w : Int)) : uS U x.toNat = false := by
  rw [hx]; show (!U.testBit w) = false
  rw [bn_tb] at d
  rw [bN_t (b := U.testBit w) (by omega)]; rfl
theorem su_t {U w : Nat} {x : Int} (d : ((U / 2 ^ w % 2 : Nat) : Int) = 0) (hx : x = (w : Int)) : uS U x.toNat = true := by
  rw [hx]; show (!U.testBit w) = true
  rw [bn_tb] at d
  rw [bN_f (b := U.testBit w) (by omega)]; rfl
theorem th_skip {e : Int32} {F ra : Nat} {G : Nat → Nat} {S : Nat → Bool} {x y : Int} (h : fwR e (min F (ra + tM G S (7 - x).toNat))) (hy : y = x - 1) (h0 : 0 ≤ x) (h7 : x ≤ 7) (hs : S x.toNat = false) : fwR e (min F (ra + tM G S (7 - y).toNat)) := by
  rw [show (7 - y).toNat = (7 - x).toNat + 1 by omega, tM_no (by rw [show 7 - (7 - x).toNat = x.toNat by omega]; exact hs)]; exact h
theorem th_done {e : Int32} {F ra t T : Nat} {G : Nat → Nat} {S : Nat → Bool} {x y : Int} (h : fwR e (min (min F (ra + tM G S (7 - x).toNat)) (ra + t + T))) (hy : y = x - 1) (h0 : 0 ≤ x) (h7 : x ≤ 7) (hs : S x.toNat = true) (hG : t + T = G x.toNat) : fwR e (min F (ra + tM G S (7 - y).toNat)) := by
  rw [show (7 - y).toNat = (7 - x).toNat + 1 by omega, tM_yes (by rw [show 7 - (7 - x).toNat = x.toNat by omega]; exact hs), show 7 - (7 - x).toNat = x.toNat by omega, ← hG]
  have : min F (ra + min (tM G S (7 - x).toNat) (t + T)) = min (min F (ra + tM G S (7 - x).toNat)) (ra + t + T) := by omega
  rw [this]; exact h
theorem th_end {e : Int32} {F ra n k : Nat} {g : Nat → Nat} {S : Nat → Bool} {x : Int} (h : fwR e (min F (ra + tM (tF n k g S) S (7 - x).toNat))) (hx : x = -1) : fwR e (min F (ra + tT n (k + 1) g S)) := by
  rw [hx, show (7 - (-1 : Int)).toNat = 8 from rfl] at h; exact h
theorem or_b : ∀ U, U < 256 → ∀ w, w < 8 → U ||| 2 ^ w < 256 ∧ ∀ c, c < 8 → uS (U ||| 2 ^ w) c = tR (uS U) w c := by decide +kernel
theorem th_take {f o o1 o2 : Nat → Int32} {n k w U t : Nat} {x : Int} (hx : x = (w : Int)) (hw : w < 8) (hU : U < 256) (hst : ∀ i, i < n → o1 i = o i) (hpt : ∀ q, q < n → o2 (nxb (boP f o1 w) n q) = o1 q) (ht : t = rnF (boP f o1 w) n) : t + tT n k (vG f o2) (uS (U ||| 2 ^ w)) = tF n k (vG f o) (uS U) x.toNat := by
  rw [hx]
  show _ = tF n k (vG f o) (uS U) w
  have eb : ∀ i, i < n → boP f o1 w i = tB (vG f o) w i := fun i hi => by unfold boP tB vG; rw [hst i hi]
  unfold tF
  rw [ht, rn_cong eb]
  congr 1
  refine tT_cong k (fun i hi => ?_) (fun c hc => (or_b U hU w hw).2 c hc)
  have h1 := nxi_spec (b := boP f o1 w) hi
  have h2 := hpt _ h1.1
  rw [h1.2] at h2
  unfold tP
  rw [← nxi_cong hi eb]
  unfold vG
  rw [h2, hst _ h1.1]
theorem th_s1 {g g' o : Nat → Int32} {a k : Nat} {v : Int32} (e : g' = upd g (k + a) v) (hv : v = o k) (H : ∀ i, i < k → g (i + a) = o i) : ∀ i, i < k + 1 → g' (i + a) = o i := by
  intro i hi
  rw [e]
  by_cases c : i = k
  · rw [c, pk_us, hv]
  · rw [pk_un (by omega)]; exact H i (by omega)
theorem th_s2 {g g' m : Nat → Int32} {a b k : Nat} {v : Int32} (e : g' = upd g (k + a) v) (hb : b ≤ a) (H : ∀ q, q < b → g q = m q) : ∀ q, q < b → g' q = m q := by
  intro q hq
  rw [e, pk_un (by omega)]; exact H q hq
theorem th_ref {f o : Nat → Int32} {e r : Int32} {n : Nat} (h : fwR e (min 100000 (0 + tT n 8 (vG f o) (uS 0)))) (ho : ∀ p, p < n → o p = nI p) (h64 : n ≤ 64) (hr : r = e) : r = nI (thF f n) := by
  have e1 : tT n 8 (vG f o) (uS 0) = thF f n := tT_cong 8 (fun i hi => by
    unfold vG tV0; rw [ho i hi, nI_toInt (by omega)]; rfl) (fun c _ => by show (!Nat.testBit 0 c) = true; rw [Nat.zero_testBit]; rfl)
  have h1 := thF_le f n
  rw [e1, Nat.zero_add, Nat.min_eq_right (by omega)] at h
  rcases h with ⟨h2, h3⟩ | ⟨h2, h3⟩
  · omega
  · rw [hr]; exact my_eqI h2 (nI_toInt (by omega))
end GFT2
section GFT3
/-- the class: each bit of a number in a lane of its own -/
def laP (v : Nat) : Nat → Nat := fb_sm (fun b => bN (v.testBit b) * 256 ^ b)
def laN (v : Nat) : Nat := laP v 8
theorem p256 (k : Nat) : 2 ^ (8 * k) = 256 ^ k := by rw [Nat.pow_mul]
theorem dg_lt {c : Nat → Nat} : ∀ {k : Nat}, (∀ b, b < k → c b < 256) → fb_sm (fun b => c b * 256 ^ b) k < 256 ^ k
  | 0, _ => Nat.zero_lt_one
  | k + 1, h => by
    have ih := dg_lt (c := c) (k := k) (fun b hb => h b (by omega))
    have hk := h k (by omega)
    rw [fb_sm_succ, Nat.pow_succ]
    have h1 : c k * 256 ^ k ≤ 255 * 256 ^ k := Nat.mul_le_mul_right _ (by omega)
    omega
theorem dg_at {c : Nat → Nat} {j : Nat} : ∀ {k : Nat}, (∀ b, b < k → c b < 256) → j < k → fb_sm (fun b => c b * 256 ^ b) k / 256 ^ j % 256 = c j
  | 0, _, h => absurd h (Nat.not_lt_zero j)
  | k + 1, h, hj => by
    have hlt := dg_lt (c := c) (k := k) (fun b hb => h b (by omega))
    rw [fb_sm_succ]
    by_cases e : j = k
    · subst e
      have hp : 0 < 256 ^ j := Nat.pow_pos (by decide)
      rw [Nat.add_mul_div_right _ _ hp, Nat.div_eq_of_lt hlt, Nat.zero_add, Nat.mod_eq_of_lt (h j (by omega))]
    · have ih := dg_at (c := c) (k := k) (fun b hb => h b (by omega)) (show j < k by omega)
      obtain ⟨d, rfl⟩ : ∃ d, k = j + (d + 1) := ⟨k - j - 1, by omega⟩
      have hp : 0 < 256 ^ j := Nat.pow_pos (by decide)
      rw [show c (j + (d + 1)) * 256 ^ (j + (d + 1)) = c (j + (d + 1)) * 256 ^ d * 256 * 256 ^ j by rw [Nat.pow_add, Nat.pow_succ]; simp only [Nat.mul_assoc, Nat.mul_left_comm, Nat.mul_comm], Nat.add_mul_div_right _ _ hp, Nat.add_mul_mod_self_right]
      exact ih
theorem bN_lt (b : Bool) : bN b < 256 := by have := bN_le b; omega
theorem laP_lt (v k : Nat) : laP v k < 256 ^ k := dg_lt (c := fun b => bN (v.testBit b)) (fun b _ => bN_lt _)
theorem shl_8 {w k : Nat} (hw : w < 2) (hk : k < 8) : lN w <<< ((nI (8 * k)).toInt64 &&& 63) = lN (w * 256 ^ k) := by
  rw [shl_1 w hw (8 * k) (by omega), p256]
theorem la_or {v k w : Nat} (hw : w = bN (v.testBit k)) : lN (laP v k) ||| lN (w * 256 ^ k) = lN (laP v (k + 1)) := by
  have h1 := laP_lt v k
  have e : laP v (k + 1) = 2 ^ (8 * k) * w + laP v k := by
    show fb_sm (fun b => bN (v.testBit b) * 256 ^ b) k + bN (v.testBit k) * 256 ^ k = _
    rw [p256, ← hw, Nat.mul_comm w]; unfold laP; omega
  rw [lor_N, e, Nat.two_pow_add_eq_or_of_lt (by rw [p256]; exact h1), p256, Nat.mul_comm w, Nat.or_comm]
theorem tb_bN (v k : Nat) : v / 2 ^ k % 2 = bN (v.testBit k) := bn_tb v k
/-- changes between neighbours, lane by lane -/
def tG (g : Nat → Nat) (b m : Nat) : Nat := fb_ct (fun i => tB g b i ^^ tB g b (i + 1)) m
def chS (g : Nat → Nat) (m : Nat) : Nat := fb_sm (fun b => tG g b m * 256 ^ b) 8
theorem chS_0 (g : Nat → Nat) : chS g 0 = 0 := by
  unfold chS
  have : ∀ k, fb_sm (fun b => tG g b 0 * 256 ^ b) k = 0 := fun k => by
    induction k with
    | zero => rfl
    | succ k ih => rw [fb_sm_succ, ih]; show 0 + 0 * 256 ^ k = 0; rw [Nat.zero_mul]
  exact this 8
theorem la_bit (w j : Nat) : (laN w).testBit j = (decide (j < 64) && decide (j % 8 = 0) && w.testBit (j / 8)) := by
  have gen : ∀ k, (laP w k).testBit j = (decide (j < 8 * k) && decide (j % 8 = 0) && w.testBit (j / 8)) := fun k => by
    induction k with
    | zero => show Nat.testBit 0 j = _; rw [Nat.zero_testBit, decide_eq_false (by omega)]; rfl
    | succ k ih =>
      have h1 := laP_lt w k
      have e : laP w (k + 1) = 2 ^ (8 * k) * bN (w.testBit k) + laP w k := by
        show fb_sm (fun b => bN (w.testBit b) * 256 ^ b) k + bN (w.testBit k) * 256 ^ k = _
        rw [p256, Nat.mul_comm (bN _)]; unfold laP; omega
      rw [e, Nat.testBit_two_pow_mul_add _ (by rw [p256]; exact h1), ih]
      by_cases c : j < 8 * k
      · rw [if_pos c, decide_eq_true c, decide_eq_true (show j < 8 * (k + 1) by omega)]
      · rw [if_neg c]
        by_cases d : j = 8 * k
        · subst d
          rw [Nat.sub_self, decide_eq_true (show 8 * k < 8 * (k + 1) by omega), decide_eq_true (show 8 * k % 8 = 0 by omega), show 8 * k / 8 = k by omega]
          cases w.testBit k <;> rfl
        · have z : (bN (w.testBit k)).testBit (j - 8 * k) = false := by
            apply Nat.testBit_lt_two_pow
            have h2 := bN_le (w.testBit k)
            have h3 : 2 ^ 1 ≤ 2 ^ (j - 8 * k) := Nat.pow_le_pow_right (by decide) (by omega)
            omega
          rw [z]
          by_cases f : j < 8 * (k + 1)
          · rw [decide_eq_false (show ¬ j % 8 = 0 by omega)]; simp
          · rw [decide_eq_false f]; rfl
  exact gen 8
theorem xo_8 : ∀ u, u < 256 → ∀ v, v < 256 → laN u ^^^ laN v = laN (u ^^^ v) := by
  intro u hu v hv
  apply Nat.eq_of_testBit_eq
  intro i
  rw [Nat.testBit_xor, la_bit, la_bit, la_bit, Nat.testBit_xor]
  cases decide (i < 64) <;> cases decide (i % 8 = 0) <;> simp
theorem msk_n {v b : Nat} (hb : b < 8) : laN v &&& 2 ^ (8 * b) = bN (v.testBit b) * 2 ^ (8 * b) := by
  apply Nat.eq_of_testBit_eq
  intro i
  rw [Nat.testBit_and, Nat.testBit_two_pow, la_bit]
  by_cases e : 8 * b = i
  · subst e
    rw [decide_eq_true (show 8 * b < 64 by omega), decide_eq_true (show 8 * b % 8 = 0 by omega), show 8 * b / 8 = b by omega, decide_eq_true (show 8 * b = 8 * b from rfl)]
    cases v.testBit b
    · show _ = (0 * 2 ^ (8 * b)).testBit (8 * b)
      rw [Nat.zero_mul, Nat.zero_testBit]; rfl
    · show _ = (1 * 2 ^ (8 * b)).testBit (8 * b)
      rw [Nat.one_mul, Nat.testBit_two_pow, decide_eq_true (show 8 * b = 8 * b from rfl)]; rfl
  · rw [decide_eq_false e, Bool.and_false]
    cases v.testBit b
    · show false = (0 * 2 ^ (8 * b)).testBit i
      rw [Nat.zero_mul, Nat.zero_testBit]
    · show false = (1 * 2 ^ (8 * b)).testBit i
      rw [Nat.one_mul, Nat.testBit_two_pow, decide_eq_false e]
theorem chS_s {g : Nat → Nat} {m : Nat} : chS g (m + 1) = chS g m + laN (g m ^^^ g (m + 1)) := by
  unfold chS laN laP
  rw [← fb_sm_add]
  refine fb_sm_cong (fun b _ => ?_)
  show tG g b (m + 1) * 256 ^ b = tG g b m * 256 ^ b + bN ((g m ^^^ g (m + 1)).testBit b) * 256 ^ b
  rw [← Nat.add_mul]; congr 1
  unfold tG
  rw [fb_ct_succ, Nat.testBit_xor]
  unfold tB bN
  cases (g m).testBit b <;> cases (g (m + 1)).testBit b <;> rfl
theorem lxor_N (a b : Nat) : lN a ^^^ lN b = lN (a ^^^ b) := by
  apply Int64.toBitVec_inj.1
  show BitVec.ofNat 64 a ^^^ BitVec.ofNat 64 b = BitVec.ofNat 64 (a ^^^ b)
  rw [BitVec.ofNat_xor]
theorem ladd_N (a b : Nat) : lN a + lN b = lN (a + b) := (Int64.ofNat_add a b).symm
theorem ch_step {W : Nat → Int64} {g : Nat → Nat} {y y' z : Int64} {k n : Nat} (hw : ∀ i, i < n → W i = lN (laN (g i))) (h8 : ∀ i, i < n → g i < 256) (h : y = lN (chS g (k - 1))) (ez : z = W k ^^^ W (k - 1)) (ey : y' = y + z) (h1 : 1 ≤ k) (hk : k < n) : y' = lN (chS g (k + 1 - 1)) := by
  obtain ⟨m, rfl⟩ : ∃ m, k = m + 1 := ⟨k - 1, by omega⟩
  rw [show m + 1 - 1 = m from rfl] at h ez
  rw [ey, h, ez, hw _ hk, hw m (by omega), lxor_N, xo_8 _ (h8 _ hk) _ (h8 m (by omega)), ladd_N, show m + 1 + 1 - 1 = m + 1 from rfl, chS_s, Nat.xor_comm]
theorem chS_at {g : Nat → Nat} {b n : Nat} (hb : b < 8) (hn : n ≤ 64) : chS g (n - 1) / 256 ^ b % 256 = tG g b (n - 1) := dg_at (c := fun b => tG g b (n - 1)) (fun c _ => by
  show tG g c (n - 1) < 256
  have h9 : tG g c (n - 1) ≤ n - 1 := fb_ct_le (fun i => tB g c i ^^ tB g c (i + 1)) (n - 1)
  omega) hb
theorem chS_lt (g : Nat → Nat) {n : Nat} (hn : n ≤ 64) : chS g (n - 1) < 18446744073709551616 := dg_lt (c := fun b => tG g b (n - 1)) (k := 8) (fun c _ => by
  show tG g c (n - 1) < 256
  have h9 : tG g c (n - 1) ≤ n - 1 := fb_ct_le (fun i => tB g c i ^^ tB g c (i + 1)) (n - 1)
  omega)
theorem tG_rn {g : Nat → Nat} {b n : Nat} (hn : 0 < n) : rnF (tB g b) n = 1 + tG g b (n - 1) := by
  unfold rnF; rw [if_neg (by omega)]; rfl
/-- a lane is read off; a bit in its lane -/
theorem ush_8 {c w : Nat} (hc : c < 18446744073709551616) (hw : w < 8) : zlu (lN c) (nI (8 * w)) = lN (c / 256 ^ w) := by
  rw [← lN_uw (zlu (lN c) (nI (8 * w))), uw_zlu (lN c) (k := 8 * w) (p := 256 ^ w) (sh_c (8 * w) (by omega)) (p256 w), uw_lN hc]
theorem and_255 {c : Nat} (hc : c < 18446744073709551616) : lN c &&& (255 : Int64) = lN (c % 256) := by
  rw [← lN_uw (lN c &&& (255 : Int64)), uw_and, uw_lN hc, show uw (255 : Int64) = 2 ^ 8 - 1 from by decide +kernel, Nat.and_two_pow_sub_one_eq_mod]
theorem l2i_N {c : Nat} (hc : c < 18446744073709551616) : (lN c).toInt32 = nI c := by rw [toI_lN, uw_lN hc]
theorem msk_z {x y z : Int64} {v b : Nat} (ex : x = lN (laN v)) (ey : y = lN (256 ^ b)) (hb : b < 8) (ez : z = x &&& y) : (z.toInt = 0 → v.testBit b = false) ∧ (z.toInt ≠ 0 → v.testBit b = true) := by
  have hp : 256 ^ b < 18446744073709551616 := Nat.lt_of_lt_of_le (Nat.pow_lt_pow_right (by decide) hb) (by decide)
  have hl : laN v < 18446744073709551616 := laP_lt v 8
  have eu : uw z = bN (v.testBit b) * 256 ^ b := by
    rw [ez, uw_and, ex, ey, uw_lN hl, uw_lN hp, ← p256, msk_n hb]
  have e0 : z.toInt = 0 ↔ uw z = 0 := by
    constructor
    · intro h
      have : z = 0 := Int64.toInt_inj.mp (by rw [h]; decide)
      rw [this]; decide +kernel
    · intro h
      have : z = 0 := by rw [← lN_uw z, h]; decide +kernel
      rw [this]; decide
  cases hv : v.testBit b
  · exact ⟨fun _ => rfl, fun h => absurd (e0.mpr (by rw [eu, hv]; show 0 * 256 ^ b = 0; rw [Nat.zero_mul])) h⟩
  · refine ⟨fun h => ?_, fun _ => rfl⟩
    have h1 := e0.mp h
    rw [eu, hv] at h1
    have h2 : 0 < 256 ^ b := Nat.pow_pos (by decide)
    have h3 : 1 * 256 ^ b = 0 := h1
    omega
end GFT3
section GFT4
def oS (O : Nat) : Nat → Bool := fun c => O.testBit c
theorem os_f {U w : Nat} {x : Int} (d : ((U / 2 ^ w % 2 : Nat) : Int) = 0) (hx : x = (w : Int)) : oS U x.toNat = false := by
  rw [hx]; show U.testBit w = false
  rw [bn_tb] at d
  exact bN_f (by omega)
theorem os_t {U w : Nat} {x : Int} (d : ((U / 2 ^ w % 2 : Nat) : Int) ≠ 0) (hx : x = (w : Int)) : oS U x.toNat = true := by
  rw [hx]; show U.testBit w = true
  rw [bn_tb] at d
  exact bN_t (by omega)
theorem rm_b : ∀ O, O < 256 → ∀ w, w < 8 → O.testBit w = true → nI O &&& (nI (2 ^ w) ^^^ (-1)) = nI (O - 2 ^ w) ∧ O - 2 ^ w < 256 ∧ ∀ c, c < 8 → oS (O - 2 ^ w) c = tR (oS O) w c := by decide +kernel
theorem rm_c {O w : Nat} (hO : O < 256) (hw : w < 8) (h : O.testBit w = true) : tC (oS (O - 2 ^ w)) + 1 = tC (oS O) := by
  rw [tC_rm hw (show oS O w = true from h)]
  congr 1
  exact fb_ct_cong (fun c hc => (rm_b O hO w hw h).2.2 c hc)
theorem rm_v {O w n : Nat} {g : Nat → Nat} (hO : O < 256) (hw : w < 8) (h : O.testBit w = true) (H : ∀ c, c < 8 → oS O c = true → tV g n c) : ∀ c, c < 8 → oS (O - 2 ^ w) c = true → tV g n c := fun c hc hs => by
  rw [(rm_b O hO w hw h).2.2 c hc] at hs
  exact H c hc (tR_iff.mp hs).1
theorem oS_pos : ∀ {O : Nat}, O < 256 → O ≠ 0 → 0 < tC (oS O) := fun {O} => (by decide +kernel : ∀ O, O < 256 → O ≠ 0 → 0 < tC (oS O)) O
theorem za_c : ∀ {v : Nat}, v < 256 → za v 8 + tC (oS v) = 8 := fun {v} => (by decide +kernel : ∀ v, v < 256 → za v 8 + tC (oS v) = 8) v
theorem th_lb {n k O w : Nat} {g : Nat → Nat} (hk : k ≤ 8) (H : ∀ c, c < 8 → oS O c = true → tV g n c) : rnF (tB g w) n + 2 * k ≤ tF n k g (oS O) w := by
  have h1 := tT_ge (n := n) k (g := tP g w n) (S := tR (oS O) w) hk (fun c hc hs => tV_p.mpr (H c hc (tR_iff.mp hs).1))
  unfold tF; omega
theorem rm_G {n k O w ra ru : Nat} {x : Int} {g : Nat → Nat} (hO : O < 256) (hw : w < 8) (h : O.testBit w = true) (hr : ru = ra + rnF (tB g w) n) (hx : x = (w : Int)) : ru + tT n k (tP g w n) (oS (O - 2 ^ w)) = ra + tF n k g (oS O) x.toNat := by
  rw [hx]; show _ = ra + tF n k g (oS O) w
  unfold tF
  rw [tT_cong k (g := tP g w n) (h := tP g w n) (S := oS (O - 2 ^ w)) (T := tR (oS O) w) (fun _ _ => rfl) (fun c hc => (rm_b O hO w hw h).2.2 c hc), hr]; omega
theorem tc_0 {e : Int32} {F ra : Nat} {G : Nat → Nat} {S : Nat → Bool} (h : e = nI F) (hF : F ≤ 513) : e = nI (min F (ra + tM G S (7 - (7 : Int32).toInt).toNat)) := by
  have e9 : tM G S (7 - (7 : Int32).toInt).toNat = 100000 := rfl
  rw [e9, Nat.min_eq_left (by omega)]; exact h
theorem tc_skip {e : Int32} {F ra : Nat} {G : Nat → Nat} {S : Nat → Bool} {x y : Int} (h : e = nI (min F (ra + tM G S (7 - x).toNat))) (hy : y = x - 1) (h0 : 0 ≤ x) (h7 : x ≤ 7) (hs : S x.toNat = false) : e = nI (min F (ra + tM G S (7 - y).toNat)) := by
  rw [show (7 - y).toNat = (7 - x).toNat + 1 by omega, tM_no (by rw [show 7 - (7 - x).toNat = x.toNat by omega]; exact hs)]; exact h
theorem tc_bound {e : Int32} {F ra : Nat} {G : Nat → Nat} {S : Nat → Bool} {x y : Int} (h : e = nI (min F (ra + tM G S (7 - x).toNat))) (hy : y = x - 1) (h0 : 0 ≤ x) (h7 : x ≤ 7) (hs : S x.toNat = true) (hb : min F (ra + tM G S (7 - x).toNat) ≤ ra + G x.toNat) : e = nI (min F (ra + tM G S (7 - y).toNat)) := by
  rw [show (7 - y).toNat = (7 - x).toNat + 1 by omega, tM_yes (by rw [show 7 - (7 - x).toNat = x.toNat by omega]; exact hs), show 7 - (7 - x).toNat = x.toNat by omega]
  have : min F (ra + min (tM G S (7 - x).toNat) (G x.toNat)) = min F (ra + tM G S (7 - x).toNat) := by omega
  rw [this]; exact h
theorem tc_done {e : Int32} {F ra ru T : Nat} {G : Nat → Nat} {S : Nat → Bool} {x y : Int} (h : e = nI (min (min F (ra + tM G S (7 - x).toNat)) (ru + T))) (hy : y = x - 1) (h0 : 0 ≤ x) (h7 : x ≤ 7) (hs : S x.toNat = true) (hG : ru + T = ra + G x.toNat) : e = nI (min F (ra + tM G S (7 - y).toNat)) := by
  rw [show (7 - y).toNat = (7 - x).toNat + 1 by omega, tM_yes (by rw [show 7 - (7 - x).toNat = x.toNat by omega]; exact hs), show 7 - (7 - x).toNat = x.toNat by omega]
  have : min F (ra + min (tM G S (7 - x).toNat) (G x.toNat)) = min (min F (ra + tM G S (7 - x).toNat)) (ru + T) := by omega
  rw [this]; exact h
theorem tc_end {e : Int32} {F ra n k m : Nat} {g : Nat → Nat} {S : Nat → Bool} {x : Int} (h : e = nI (min F (ra + tM (tF n k g S) S (7 - x).toNat))) (hx : x = -1) (hm : m = k + 1) : e = nI (min F (ra + tT n m g S)) := by
  rw [hx, show (7 - (-1 : Int)).toNat = 8 from rfl] at h
  rw [hm]; exact h
theorem tc_no {e : Int32} {F ra T : Nat} (h : e = nI F) (hF : F = 0) : e = nI (min F (ra + T)) := by rw [Nat.min_eq_left (by omega)]; exact h
theorem tk_0 {n K O ru F : Nat} {g : Nat → Nat} (h0 : O = 0) (hK : K = tC (oS O)) (hr : ru < F) : nI ru = nI (min F (ru + tT n K g (oS O))) := by
  have z : tC (oS 0) = 0 := by decide +kernel
  rw [hK, h0, z]
  show _ = nI (min F (ru + 0))
  rw [Nat.add_zero, Nat.min_eq_right (by omega)]
theorem us_at {f g : Nat → Int32} {k : Nat} {v : Int32} (e : g = upd f k v) : g k = v := by rw [e, pk_us]
theorem tP_8 {g : Nat → Nat} {b n : Nat} (h : ∀ i, i < n → g i < 256) : ∀ i, i < n → tP g b n i < 256 := fun _ hi => h _ (nxi_spec hi).1
theorem tV0_8 {f : Nat → Int32} (h : RB 0 255 f) (i : Nat) : tV0 f i < 256 := by have := h i; unfold tV0; omega
/-- parted lines -/
theorem prL_z {b : Nat → Bool} {g g' o : Nat → Int64} {k a : Nat} {x : Int64} (H : ∀ q, q < k → b q = false → g (q - fb_ct b q) = o q) (hb : b k = false) (ha : a = k - fb_ct b k) (e : g' = vp_updL g a x) (ex : x = o k) : ∀ q, q < k + 1 → b q = false → g' (q - fb_ct b q) = o q := by
  intro q hq hbq
  by_cases c : q = k
  · subst c; rw [← ha, updL_s e, ex]
  · have h1 := ct_lt (p := fun i => !b i) (show q < k by omega) (by simp [hbq])
    rw [updL_o e (by rw [ha, ct_nb, ct_nb]; omega)]; exact H q (by omega) hbq
theorem prL_zk {b : Nat → Bool} {g o : Nat → Int64} {k : Nat} (H : ∀ q, q < k → b q = false → g (q - fb_ct b q) = o q) (hb : b k = true) : ∀ q, q < k + 1 → b q = false → g (q - fb_ct b q) = o q := by
  intro q hq hbq
  by_cases c : q = k
  · subst c; rw [hb] at hbq; cases hbq
  · exact H q (by omega) hbq
theorem prL_o {b : Nat → Bool} {g g' o : Nat → Int64} {k a : Nat} {x : Int64} (H : ∀ q, q < k → b q = true → g (fb_ct b q) = o q) (hb : b k = true) (ha : a = fb_ct b k) (e : g' = vp_updL g a x) (ex : x = o k) : ∀ q, q < k + 1 → b q = true → g' (fb_ct b q) = o q := by
  intro q hq hbq
  by_cases c : q = k
  · subst c; rw [← ha, updL_s e, ex]
  · have h1 := ct_lt (p := b) (show q < k by omega) hbq
    rw [updL_o e (by omega)]; exact H q (by omega) hbq
theorem prL_ok {b : Nat → Bool} {g o : Nat → Int64} {k : Nat} (H : ∀ q, q < k → b q = true → g (fb_ct b q) = o q) (hb : b k = false) : ∀ q, q < k + 1 → b q = true → g (fb_ct b q) = o q := by
  intro q hq hbq
  by_cases c : q = k
  · subst c; rw [hb] at hbq; cases hbq
  · exact H q (by omega) hbq
theorem prL_end {b : Nat → Bool} {g h g' o : Nat → Int64} {n a c : Nat} (H1 : ∀ q, q < n → b q = false → g (q - fb_ct b q) = o q) (H2 : ∀ q, q < n → b q = true → h (fb_ct b q) = o q) (ha : a + fb_ct b n = n) (hc : c = fb_ct b n) (e : g' = va_cpy h g 0 a c) : ∀ k, k < n → g' (nxb b n k) = o k := by
  intro k hk
  rw [e]
  cases hb : b k
  · rw [nxb_f hb]
    have h1 := ct_lt (p := fun i => !b i) hk (by simp [hb])
    have h2 := ct_nb b k
    have h3 := ct_nb b n
    unfold va_cpy; rw [if_neg (by omega)]; exact H1 k hk hb
  · rw [nxb_t hb]
    have h1 := ct_lt hk hb
    unfold va_cpy; rw [if_pos (by omega), show 0 + (n - fb_ct b n + fb_ct b k - a) = fb_ct b k by omega]; exact H2 k hk hb
theorem pt_lines {W V : Nat → Int64} {g : Nat → Nat} {b n : Nat} (h : ∀ k, k < n → V (nxb (tB g b) n k) = W k) (hw : ∀ i, i < n → W i = lN (laN (g i))) : ∀ i, i < n → V i = lN (laN (tP g b n i)) := fun i hi => by
  have h1 := nxi_spec (b := tB g b) hi
  have h2 := h _ h1.1
  rw [h1.2, hw _ h1.1] at h2
  exact h2
/-- the first line -/
theorem ln_step {W W' : Nat → Int64} {F : Nat → Int64} {k : Nat} {v : Int64} (e : W' = vp_updL W k v) (hv : v = F k) (h : ∀ j, j < k → W j = F j) : ∀ j, j < k + 1 → W' j = F j := by
  intro j hj
  by_cases c : j = k
  · subst c; rw [updL_s e, hv]
  · rw [updL_o e c]; exact h j (by omega)
def tlP (f : Nat → Int32) (vv k : Nat) : Prop := ∀ c, c < 8 → (oS vv c = true ↔ ∃ q, q < k ∧ (tV0 f q).testBit c ≠ (tV0 f 0).testBit c)
theorem tl_0 {f : Nat → Int32} : tlP f 0 0 := fun c _ => by
  constructor
  · intro h
    have h9 : Nat.testBit 0 c = true := h
    rw [Nat.zero_testBit] at h9; cases h9
  · rintro ⟨q, hq, _⟩
    exact absurd hq (Nat.not_lt_zero q)
theorem tl_step {f : Nat → Int32} {vv k w1 w0 : Nat} (H : tlP f vv k) (e1 : w1 = tV0 f k) (e0 : w0 = tV0 f 0) : tlP f (vv ||| (w1 ^^^ w0)) (k + 1) := fun c hc => by
  have ih := H c hc
  unfold oS at ih ⊢
  rw [Nat.testBit_or, Nat.testBit_xor, e1, e0, Bool.or_eq_true, ih]
  constructor
  · rintro (⟨q, q1, q2⟩ | h)
    · exact ⟨q, by omega, q2⟩
    · exact ⟨k, by omega, fun e => by rw [e, Bool.xor_self] at h; cases h⟩
  · rintro ⟨q, q1, q2⟩
    by_cases e : q = k
    · subst e
      right
      cases h1 : (tV0 f q).testBit c <;> cases h2 : (tV0 f 0).testBit c <;> rw [h1, h2] at q2 <;> first | rfl | exact absurd rfl q2
    · exact Or.inl ⟨q, by omega, q2⟩
theorem tl_end {f : Nat → Int32} {vv k n : Nat} (H : tlP f vv k) (hk : k = n) : ∀ c, c < 8 → (oS vv c = true ↔ tV (tV0 f) n c) := fun c hc => by
  subst hk
  rw [H c hc]
  constructor
  · rintro ⟨q, q1, q2⟩
    exact ⟨q, q1, 0, by omega, q2⟩
  · rintro ⟨i, hi, j, hj, hne⟩
    unfold tB at hne
    by_cases e : (tV0 f i).testBit c = (tV0 f 0).testBit c
    · exact ⟨j, hj, fun e2 => hne (by rw [e, e2])⟩
    · exact ⟨i, hi, e⟩
theorem th_fin {f : Nat → Int32} {n vv k F : Nat} {x z : Int32} (hV : ∀ c, c < 8 → (oS vv c = true ↔ tV (tV0 f) n c)) (hk : k = tC (oS vv)) (h64 : n ≤ 64) (hF : (k = 0 ∧ F = 0) ∨ (k ≠ 0 ∧ F = 513)) (hx : x = nI (min F (0 + tT n (k - 0) (tV0 f) (oS vv)))) (hz : (n = 0 ∧ z.toInt = x.toInt) ∨ (n ≠ 0 ∧ z.toInt = x.toInt + (8 - (k : Int)))) : z = nI (thF f n) := by
  have h8 : tC (oS vv) ≤ 8 := fb_ct_le _ 8
  have hb : tT n k (tV0 f) (oS vv) ≤ n * k := tT_le k (by omega)
  have hb2 : n * k ≤ 64 * 8 := Nat.mul_le_mul h64 (by omega)
  have hm : min F (0 + tT n (k - 0) (tV0 f) (oS vv)) = tT n k (tV0 f) (oS vv) := by
    rw [Nat.sub_zero, Nat.zero_add]
    rcases hF with ⟨h1, h2⟩ | ⟨h1, h2⟩
    · subst h1; subst h2; rfl
    · omega
  rw [hm] at hx
  have hxi : x.toInt = ((tT n k (tV0 f) (oS vv) : Nat) : Int) := by rw [hx]; exact nI_toInt (by omega)
  have hle := thF_le f n
  have e : z.toInt = ((thF f n : Nat) : Int) := by
    rcases hz with ⟨h0, h1⟩ | ⟨h0, h1⟩
    · subst h0
      rw [Nat.zero_mul] at hb hle
      omega
    · have h2 := thF_c (f := f) (n := n) (V := oS vv) (by omega) h64 hV
      rw [← hk] at h2
      omega
  exact my_eqI e (nI_toInt (by omega))
end GFT4
