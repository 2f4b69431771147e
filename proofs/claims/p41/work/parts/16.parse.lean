section GFP
theorem my_p10 {k : Nat} (h : k ≤ 3) : 1 ≤ 10 ^ k ∧ 10 ^ k ≤ 1000 := (by decide +kernel : ∀ k, k ≤ 3 → 1 ≤ 10 ^ k ∧ 10 ^ k ≤ 1000) k h
/-- four signs behind each other -/
def w4 (f : Nat → Int32) (n : Nat) (a b c d : Int32) : Nat → Int32 := upd (upd (upd (upd f n a) (n + 1) b) (n + 2) c) (n + 3) d
def sgC (v s : Int32) : Int32 := (v.toUInt32 >>> (s.toUInt32 &&& Int32.toUInt32 31)).toInt32 &&& 255
def sgR (v s : Int32) : Int32 := v >>> (s &&& 31) &&& 255
/-- a digit stands at k of a text of n signs -/
def dgt (f : Nat → Int32) (n k : Nat) : Bool := decide (k < n) && (decide (48 ≤ (f k).toInt) && decide ((f k).toInt ≤ 57))
theorem dgt_iff {f : Nat → Int32} {n k : Nat} : dgt f n k = true ↔ k < n ∧ 48 ≤ (f k).toInt ∧ (f k).toInt ≤ 57 := by
  unfold dgt; simp [Bool.and_eq_true]
theorem dgt_no {f : Nat → Int32} {n k : Nat} (h : n ≤ k ∨ (f k).toInt < 48 ∨ 57 < (f k).toInt) : dgt f n k = false := by
  cases e : dgt f n k with
  | false => rfl
  | true => have := dgt_iff.mp e; omega
def dgv (f : Nat → Int32) (k : Nat) : Nat := ((f k).toInt - 48).toNat
/-- where d digits at most from a on end; what they come to -/
def rdE (f : Nat → Int32) (n : Nat) : Nat → Nat → Nat
  | 0, a => a
  | d + 1, a => if dgt f n a then rdE f n d (a + 1) else a
def rdV (f : Nat → Int32) (n : Nat) : Nat → Nat → Nat → Nat
  | 0, _, v => v
  | d + 1, a, v => if dgt f n a then rdV f n d (a + 1) (10 * v + dgv f a) else v
theorem rd_yes {f : Nat → Int32} {n d k a v : Nat} (hk : k < d) (h : dgt f n a = true) : rdE f n (d - k) a = rdE f n (d - (k + 1)) (a + 1) ∧ rdV f n (d - k) a v = rdV f n (d - (k + 1)) (a + 1) (10 * v + dgv f a) := by
  obtain ⟨j, e⟩ : ∃ j, d - k = j + 1 := ⟨d - k - 1, by omega⟩
  rw [e, show d - (k + 1) = j by omega]
  constructor
  · show (if dgt f n a then rdE f n j (a + 1) else a) = _; rw [if_pos h]
  · show (if dgt f n a then rdV f n j (a + 1) (10 * v + dgv f a) else v) = _; rw [if_pos h]
theorem rd_exit {f : Nat → Int32} {n d k a v : Nat} (h : d ≤ k ∨ dgt f n a = false) : rdE f n (d - k) a = a ∧ rdV f n (d - k) a v = v := by
  cases e : d - k with
  | zero => exact ⟨rfl, rfl⟩
  | succ j =>
    have h2 : dgt f n a = false := by rcases h with h | h; · omega
                                      · exact h
    constructor
    · show (if dgt f n a then rdE f n j (a + 1) else a) = _; rw [h2]; rfl
    · show (if dgt f n a then rdV f n j (a + 1) (10 * v + dgv f a) else v) = _; rw [h2]; rfl
theorem rdE_ge {f : Nat → Int32} {n : Nat} : ∀ (d a : Nat), a ≤ rdE f n d a
  | 0, a => Nat.le_refl a
  | d + 1, a => by
    show a ≤ (if dgt f n a then rdE f n d (a + 1) else a)
    split
    · have := rdE_ge (f := f) (n := n) d (a + 1); omega
    · exact Nat.le_refl a
/-- a number stands at a: not none, no digit too many, within bounds -/
def nmOk (f : Nat → Int32) (n d lo hi a : Nat) : Prop := a < rdE f n d a ∧ dgt f n (rdE f n d a) = false ∧ lo ≤ rdV f n d a 0 ∧ rdV f n d a 0 ≤ hi
/-- both texts alike as far as they go -/
def txEq (n : Nat) (f g : Nat → Int32) : Prop := ∀ j, j < n → f j = g j
theorem dgt_eq {f g : Nat → Int32} {n : Nat} (h : txEq n f g) (k : Nat) : dgt f n k = dgt g n k := by
  unfold dgt
  by_cases hk : k < n
  · rw [h k hk]
  · rw [decide_eq_false hk, Bool.false_and, Bool.false_and]
theorem rd_eq {f g : Nat → Int32} {n : Nat} (h : txEq n f g) : ∀ (d a v : Nat), rdE f n d a = rdE g n d a ∧ rdV f n d a v = rdV g n d a v
  | 0, _, _ => ⟨rfl, rfl⟩
  | d + 1, a, v => by
    have e := dgt_eq h a
    constructor
    · show (if dgt f n a then rdE f n d (a + 1) else a) = (if dgt g n a then rdE g n d (a + 1) else a)
      rw [e, (rd_eq h d (a + 1) 0).1]
    · show (if dgt f n a then rdV f n d (a + 1) (10 * v + dgv f a) else v) = (if dgt g n a then rdV g n d (a + 1) (10 * v + dgv g a) else v)
      by_cases hd : dgt g n a = true
      · rw [e, if_pos hd, if_pos hd, (rd_eq h d (a + 1) _).2, show dgv f a = dgv g a by unfold dgv; rw [h a (dgt_iff.mp hd).1]]
      · rw [e, if_neg hd, if_neg hd]
theorem nmOk_eq {f g : Nat → Int32} {n : Nat} (h : txEq n f g) (d lo hi a : Nat) : nmOk f n d lo hi a ↔ nmOk g n d lo hi a := by
  unfold nmOk; rw [(rd_eq h d a 0).1, (rd_eq h d a 0).2, dgt_eq h]
/-- the sign c stands at k -/
def isS (f : Nat → Int32) (n k : Nat) (c : Int) : Bool := decide (k < n) && decide ((f k).toInt = c)
theorem isS_iff {f : Nat → Int32} {n k : Nat} {c : Int} : isS f n k c = true ↔ k < n ∧ (f k).toInt = c := by
  unfold isS; simp [Bool.and_eq_true]
theorem isS_no {f : Nat → Int32} {n k : Nat} {c : Int} (h : n ≤ k ∨ (f k).toInt ≠ c) : isS f n k c = false := by
  cases e : isS f n k c with
  | false => rfl
  | true => have := isS_iff.mp e; omega
theorem isS_eq {f g : Nat → Int32} {n : Nat} (h : txEq n f g) (k : Nat) (c : Int) : isS f n k c = isS g n k c := by
  unfold isS
  by_cases hk : k < n
  · rw [h k hk]
  · rw [decide_eq_false hk, Bool.false_and, Bool.false_and]
/-- a PART that begins at a: where its NUMBER ends, whether it is right in itself, its end, how often, its NUMBER -/
def ptM (f : Nat → Int32) (n a : Nat) : Nat := rdE f n 3 a
def ptOk (f : Nat → Int32) (n a : Nat) : Prop := nmOk f n 3 0 255 a ∧ (isS f n (ptM f n a) 120 = true → nmOk f n 2 1 64 (ptM f n a + 1))
def ptE (f : Nat → Int32) (n a : Nat) : Nat := if isS f n (ptM f n a) 120 then rdE f n 2 (ptM f n a + 1) else ptM f n a
def ptT (f : Nat → Int32) (n a : Nat) : Nat := if isS f n (ptM f n a) 120 then rdV f n 2 (ptM f n a + 1) 0 else 1
def ptV (f : Nat → Int32) (n a : Nat) : Nat := rdV f n 3 a 0
theorem pt_eq {f g : Nat → Int32} {n : Nat} (h : txEq n f g) (a : Nat) : (ptOk f n a ↔ ptOk g n a) ∧ ptE f n a = ptE g n a ∧ ptT f n a = ptT g n a ∧ ptV f n a = ptV g n a := by
  have e : ptM f n a = ptM g n a := (rd_eq h 3 a 0).1
  refine ⟨?_, ?_, ?_, (rd_eq h 3 a 0).2⟩
  · unfold ptOk; rw [nmOk_eq h, nmOk_eq h, e, isS_eq h]
  · unfold ptE; rw [e, isS_eq h, (rd_eq h 2 _ 0).1]
  · unfold ptT; rw [e, isS_eq h, (rd_eq h 2 _ 0).2]
theorem ptE_gt {f : Nat → Int32} {n a : Nat} (h : ptOk f n a) : a < ptE f n a := by
  have h1 := h.1.1
  unfold ptE ptM; split
  · have := rdE_ge (f := f) (n := n) 2 (rdE f n 3 a + 1); omega
  · exact h1
/-- the PARTS from a on, with z NUMBERS ahead of them: right to the end; how many NUMBERS; the row of them -/
def clOk (f : Nat → Int32) (n : Nat) : Nat → Nat → Nat → Prop
  | 0, _, _ => False
  | t + 1, a, z => ptOk f n a ∧ z + ptT f n a ≤ 64 ∧ (n ≤ ptE f n a ∨ (isS f n (ptE f n a) 44 = true ∧ clOk f n t (ptE f n a + 1) (z + ptT f n a)))
def clN (f : Nat → Int32) (n : Nat) : Nat → Nat → Nat → Nat
  | 0, _, z => z
  | t + 1, a, z => if n ≤ ptE f n a then z + ptT f n a else clN f n t (ptE f n a + 1) (z + ptT f n a)
def clF (f : Nat → Int32) (n : Nat) : Nat → Nat → Nat → (Nat → Int32) → (Nat → Int32)
  | 0, _, _, g => g
  | t + 1, a, z, g => if n ≤ ptE f n a then fb_put g (fun _ => nI (ptV f n a)) z (ptT f n a) else clF f n t (ptE f n a + 1) (z + ptT f n a) (fb_put g (fun _ => nI (ptV f n a)) z (ptT f n a))
theorem cl_fuel {f : Nat → Int32} {n : Nat} : ∀ (t u a z : Nat) (g : Nat → Int32), n + 1 ≤ t + a → n + 1 ≤ u + a → a ≤ n → (clOk f n t a z ↔ clOk f n u a z) ∧ (clOk f n t a z → clN f n t a z = clN f n u a z ∧ clF f n t a z g = clF f n u a z g)
  | 0, u, a, z, g, h1, h2, h3 => absurd h1 (by omega)
  | t + 1, 0, a, z, g, h1, h2, h3 => absurd h2 (by omega)
  | t + 1, u + 1, a, z, g, h1, h2, h3 => by
    by_cases hp : ptOk f n a
    · have hgt := ptE_gt hp
      by_cases hn : n ≤ ptE f n a
      · refine ⟨?_, fun _ => ⟨?_, ?_⟩⟩
        · show (ptOk f n a ∧ _ ∧ _) ↔ (ptOk f n a ∧ _ ∧ _)
          constructor <;> exact fun q => ⟨q.1, q.2.1, Or.inl hn⟩
        · show (if n ≤ ptE f n a then _ else _) = (if n ≤ ptE f n a then _ else _); rw [if_pos hn, if_pos hn]
        · show (if n ≤ ptE f n a then _ else _) = (if n ≤ ptE f n a then _ else _); rw [if_pos hn, if_pos hn]
      · have ih := cl_fuel (f := f) (n := n) t u (ptE f n a + 1) (z + ptT f n a) (fb_put g (fun _ => nI (ptV f n a)) z (ptT f n a)) (by omega) (by omega) (by omega)
        refine ⟨?_, fun hk => ?_⟩
        · show (ptOk f n a ∧ _ ∧ _) ↔ (ptOk f n a ∧ _ ∧ _)
          constructor
          · exact fun q => ⟨q.1, q.2.1, q.2.2.elim Or.inl (fun w => Or.inr ⟨w.1, ih.1.mp w.2⟩)⟩
          · exact fun q => ⟨q.1, q.2.1, q.2.2.elim Or.inl (fun w => Or.inr ⟨w.1, ih.1.mpr w.2⟩)⟩
        · have hk2 := hk.2.2.elim (fun w => absurd w hn) (fun w => w.2)
          refine ⟨?_, ?_⟩
          · show (if n ≤ ptE f n a then _ else _) = (if n ≤ ptE f n a then _ else _); rw [if_neg hn, if_neg hn]; exact (ih.2 hk2).1
          · show (if n ≤ ptE f n a then _ else _) = (if n ≤ ptE f n a then _ else _); rw [if_neg hn, if_neg hn]; exact (ih.2 hk2).2
    · exact ⟨⟨fun q => absurd q.1 hp, fun q => absurd q.1 hp⟩, fun q => absurd q.1 hp⟩
theorem cl_eq {f g : Nat → Int32} {n : Nat} (h : txEq n f g) : ∀ (t a z : Nat) (k : Nat → Int32), (clOk f n t a z ↔ clOk g n t a z) ∧ clN f n t a z = clN g n t a z ∧ clF f n t a z k = clF g n t a z k
  | 0, _, _, _ => ⟨Iff.rfl, rfl, rfl⟩
  | t + 1, a, z, k => by
    obtain ⟨p1, p2, p3, p4⟩ := pt_eq h a
    have ih := cl_eq h t (ptE g n a + 1) (z + ptT g n a) (fb_put k (fun _ => nI (ptV g n a)) z (ptT g n a))
    refine ⟨?_, ?_, ?_⟩
    · show (ptOk f n a ∧ z + ptT f n a ≤ 64 ∧ (n ≤ ptE f n a ∨ (isS f n (ptE f n a) 44 = true ∧ clOk f n t (ptE f n a + 1) (z + ptT f n a)))) ↔ (ptOk g n a ∧ z + ptT g n a ≤ 64 ∧ (n ≤ ptE g n a ∨ (isS g n (ptE g n a) 44 = true ∧ clOk g n t (ptE g n a + 1) (z + ptT g n a))))
      rw [p1, p2, p3, isS_eq h, ih.1]
    · show (if n ≤ ptE f n a then z + ptT f n a else clN f n t (ptE f n a + 1) (z + ptT f n a)) = (if n ≤ ptE g n a then z + ptT g n a else clN g n t (ptE g n a + 1) (z + ptT g n a))
      rw [p2, p3, ih.2.1]
    · show (if n ≤ ptE f n a then fb_put k (fun _ => nI (ptV f n a)) z (ptT f n a) else clF f n t (ptE f n a + 1) (z + ptT f n a) (fb_put k (fun _ => nI (ptV f n a)) z (ptT f n a))) = (if n ≤ ptE g n a then fb_put k (fun _ => nI (ptV g n a)) z (ptT g n a) else clF g n t (ptE g n a + 1) (z + ptT g n a) (fb_put k (fun _ => nI (ptV g n a)) z (ptT g n a)))
      rw [p2, p3, p4, ih.2.2]
end GFP
