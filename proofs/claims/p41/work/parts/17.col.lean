section GFC
theorem txEq_w4 {n : Nat} {f g : Nat → Int32} {a b c d a' b' c' d' : Int32} (h : txEq n f g) (ha : a = a') (hb : b = b') (hc : c = c') (hd : d = d') : txEq (n + 4) (w4 f n a b c d) (w4 g n a' b' c' d') := by
  subst ha hb hc hd
  intro j hj
  unfold w4
  by_cases h3 : j = n + 3
  · subst h3; rw [pk_us, pk_us]
  rw [pk_un h3, pk_un h3]
  by_cases h2 : j = n + 2
  · subst h2; rw [pk_us, pk_us]
  rw [pk_un h2, pk_un h2]
  by_cases h1 : j = n + 1
  · subst h1; rw [pk_us, pk_us]
  rw [pk_un h1, pk_un h1]
  by_cases h0 : j = n
  · subst h0; rw [pk_us, pk_us]
  rw [pk_un h0, pk_un h0]
  exact h j (by omega)
theorem txEq.le {n m : Nat} {f g : Nat → Int32} (h : txEq n f g) (hm : m ≤ n) : txEq m f g := fun j hj => h j (by omega)
theorem txEq.zero {f g : Nat → Int32} : txEq 0 f g := fun j hj => absurd hj (Nat.not_lt_zero j)
theorem sg_bits (v : Int32) {s : Nat} (hs : s ≤ 24) : (v.toBitVec >>> s) &&& 255#32 = (v.toBitVec.sshiftRight s) &&& 255#32 := by
  apply BitVec.eq_of_getLsbD_eq
  intro i hi
  rw [BitVec.getLsbD_and, BitVec.getLsbD_and, BitVec.getLsbD_ushiftRight, BitVec.getLsbD_sshiftRight]
  by_cases h8 : i < 8
  · have e1 : s + i < 32 := by omega
    have e2 : ¬ 32 ≤ i := by omega
    simp [e1, e2, hi]
  · have e : (255#32).getLsbD i = false := (by decide +kernel : ∀ i, i < 32 → ¬ i < 8 → (255#32).getLsbD i = false) i hi h8
    rw [e, Bool.and_false, Bool.and_false]
theorem sg_eq0 (v : Int32) (k : Int32) {s : Nat} (hs : s ≤ 24) (h1 : (k.toUInt32 &&& Int32.toUInt32 31).toBitVec.toNat % 32 = s) (h2 : ((k &&& 31).toBitVec.smod 32).toNat = s) : sgC v k = sgR v k := by
  unfold sgC sgR
  apply Int32.toBitVec_inj.mp
  rw [Int32.toBitVec_and, Int32.toBitVec_and, Int32.toBitVec_shiftRight]
  have e1 : (v.toUInt32 >>> (k.toUInt32 &&& Int32.toUInt32 31)).toInt32.toBitVec = v.toBitVec >>> s := by
    show (v.toUInt32 >>> (k.toUInt32 &&& Int32.toUInt32 31)).toBitVec = _
    rw [UInt32.toBitVec_shiftRight, BitVec.ushiftRight_eq']
    have : ((k.toUInt32 &&& Int32.toUInt32 31).toBitVec % 32).toNat = s := by rw [BitVec.toNat_umod]; exact h1
    rw [this]; rfl
  rw [e1]
  have e2 : (v.toBitVec.sshiftRight' ((k &&& 31).toBitVec.smod 32)) = v.toBitVec.sshiftRight s := by
    show v.toBitVec.sshiftRight ((k &&& 31).toBitVec.smod 32).toNat = _
    rw [h2]
  rw [e2]
  exact sg_bits v hs
theorem sg_24 (v : Int32) : sgC v 24 = sgR v 24 := sg_eq0 v 24 (s := 24) (by decide) (by decide +kernel) (by decide +kernel)
theorem sg_16 (v : Int32) : sgC v 16 = sgR v 16 := sg_eq0 v 16 (s := 16) (by decide) (by decide +kernel) (by decide +kernel)
theorem sg_8 (v : Int32) : sgC v 8 = sgR v 8 := sg_eq0 v 8 (s := 8) (by decide) (by decide +kernel) (by decide +kernel)
theorem sg_0 (v : Int32) : sgC v 0 = sgR v 0 := sg_eq0 v 0 (s := 0) (by decide) (by decide +kernel) (by decide +kernel)
theorem sg_tie {n m : Nat} {f g : Nat → Int32} {v : Int32} (h : txEq n f g) (hm : m = n) : txEq (n + 4) (w4 f n (sgC v 24) (sgC v 16) (sgC v 8) (sgC v 0)) (w4 g m (sgR v 24) (sgR v 16) (sgR v 8) (sgR v 0)) := by
  subst hm; exact txEq_w4 h (sg_24 v) (sg_16 v) (sg_8 v) (sg_0 v)
/-- a PART, read: without x, with it -/
theorem pt_noX {f : Nat → Int32} {n a m : Nat} (hm : m = rdE f n 3 a) (h : n ≤ m ∨ (f m).toInt ≠ 120) : ptT f n a = 1 ∧ ptE f n a = m ∧ (nmOk f n 3 0 255 a → ptOk f n a) := by
  have e : isS f n (ptM f n a) 120 = false := by unfold ptM; rw [← hm]; exact isS_no h
  refine ⟨?_, ?_, fun h1 => ⟨h1, fun q => ?_⟩⟩
  · unfold ptT; rw [e]; rfl
  · unfold ptE; rw [e]; exact hm.symm
  · rw [e] at q; cases q
theorem pt_X {f : Nat → Int32} {n a m v e : Nat} (hm : m = rdE f n 3 a) (h1 : m < n) (h2 : (f m).toInt = 120) (hv : v = rdV f n 2 (m + 1) 0) (he : e = rdE f n 2 (m + 1)) : ptT f n a = v ∧ ptE f n a = e ∧ (nmOk f n 3 0 255 a → nmOk f n 2 1 64 (m + 1) → ptOk f n a) := by
  have e9 : isS f n (ptM f n a) 120 = true := by unfold ptM; rw [← hm]; exact isS_iff.mpr ⟨h1, h2⟩
  refine ⟨?_, ?_, fun q1 q2 => ⟨q1, fun _ => ?_⟩⟩
  · unfold ptT; rw [e9, if_pos rfl]; unfold ptM; rw [← hm]; exact hv.symm
  · unfold ptE; rw [e9, if_pos rfl]; unfold ptM; rw [← hm]; exact he.symm
  · unfold ptM; rw [← hm]; exact q2
theorem pt_Xno {f : Nat → Int32} {n a m : Nat} (hm : m = rdE f n 3 a) (h1 : m < n) (h2 : (f m).toInt = 120) (hno : ¬ nmOk f n 2 1 64 (m + 1)) : ¬ ptOk f n a := by
  intro q
  have e9 : isS f n (ptM f n a) 120 = true := by unfold ptM; rw [← hm]; exact isS_iff.mpr ⟨h1, h2⟩
  have q2 := q.2 e9
  unfold ptM at q2; rw [← hm] at q2
  exact hno q2
theorem fp_step {f g pn : Nat → Int32} {v : Int32} {pz k sz : Nat} (h : f = fb_put pn (fun _ => v) pz k) (eg : g = upd f sz v) (hs : sz = pz + k) : g = fb_put pn (fun _ => v) pz (k + 1) := by
  rw [eg, h, hs]; exact fb_put_succ pn (fun _ => v) pz k
/-- what reading PART by PART keeps: from a on, z NUMBERS ahead of it laid in g, it comes to what it comes to from the start -/
def clI (f : Nat → Int32) (n a z : Nat) (g g0 : Nat → Int32) : Prop := (clOk f n (n + 1) 0 0 ↔ clOk f n (n + 1) a z) ∧ (clOk f n (n + 1) a z → clN f n (n + 1) 0 0 = clN f n (n + 1) a z ∧ clF f n (n + 1) 0 0 g0 = clF f n (n + 1) a z g)
theorem clI_0 (f : Nat → Int32) (n : Nat) (g : Nat → Int32) : clI f n 0 0 g g := ⟨Iff.rfl, fun _ => ⟨rfl, rfl⟩⟩
theorem clI_step {f : Nat → Int32} {n a z : Nat} {g g0 : Nat → Int32} (h : clI f n a z g g0) (hp : ptOk f n a) (hz : z + ptT f n a ≤ 64) (hc : isS f n (ptE f n a) 44 = true) : clI f n (ptE f n a + 1) (z + ptT f n a) (fb_put g (fun _ => nI (ptV f n a)) z (ptT f n a)) g0 := by
  have hlt := (isS_iff.mp hc).1
  have hn : ¬ n ≤ ptE f n a := by omega
  have hgt := ptE_gt hp
  have hf := cl_fuel (f := f) (n := n) n (n + 1) (ptE f n a + 1) (z + ptT f n a) (fb_put g (fun _ => nI (ptV f n a)) z (ptT f n a)) (by omega) (by omega) (by omega)
  have e1 : clOk f n (n + 1) a z ↔ clOk f n (n + 1) (ptE f n a + 1) (z + ptT f n a) := by
    rw [← hf.1]
    constructor
    · intro q
      exact q.2.2.elim (fun w => absurd w hn) (fun w => w.2)
    · exact fun q => ⟨hp, hz, Or.inr ⟨hc, q⟩⟩
  refine ⟨h.1.trans e1, fun q => ?_⟩
  have q0 := h.2 (e1.mpr q)
  have q1 := hf.2 (hf.1.mpr q)
  refine ⟨q0.1.trans ?_, q0.2.trans ?_⟩
  · show (if n ≤ ptE f n a then _ else _) = _; rw [if_neg hn]; exact q1.1
  · show (if n ≤ ptE f n a then _ else _) = _; rw [if_neg hn]; exact q1.2
theorem clI_end {f : Nat → Int32} {n a z : Nat} {g g0 : Nat → Int32} (h : clI f n a z g g0) (hp : ptOk f n a) (hz : z + ptT f n a ≤ 64) (hn : n ≤ ptE f n a) : clOk f n (n + 1) 0 0 ∧ z + ptT f n a = clN f n (n + 1) 0 0 ∧ fb_put g (fun _ => nI (ptV f n a)) z (ptT f n a) = clF f n (n + 1) 0 0 g0 := by
  have q : clOk f n (n + 1) a z := ⟨hp, hz, Or.inl hn⟩
  have q0 := h.2 q
  refine ⟨h.1.mpr q, Eq.trans ?_ q0.1.symm, Eq.trans ?_ q0.2.symm⟩
  · show _ = (if n ≤ ptE f n a then _ else _); rw [if_pos hn]
  · show _ = (if n ≤ ptE f n a then _ else _); rw [if_pos hn]
theorem clI_bad {f : Nat → Int32} {n a z : Nat} {g g0 : Nat → Int32} (h : clI f n a z g g0) (hp : ¬ (ptOk f n a ∧ z + ptT f n a ≤ 64 ∧ (n ≤ ptE f n a ∨ isS f n (ptE f n a) 44 = true))) : ¬ clOk f n (n + 1) 0 0 := fun q => by
  have q2 := h.1.mp q
  exact hp ⟨q2.1, q2.2.1, q2.2.2.elim Or.inl (fun w => Or.inr w.1)⟩
/-- THE TEXT as a COLUMN: right, how many, the row -/
def colOk (f : Nat → Int32) (n : Nat) : Prop := n = 0 ∨ clOk f n (n + 1) 0 0
def colN (f : Nat → Int32) (n : Nat) : Nat := if n = 0 then 0 else clN f n (n + 1) 0 0
def colF (f : Nat → Int32) (n : Nat) (g : Nat → Int32) : Nat → Int32 := if n = 0 then g else clF f n (n + 1) 0 0 g
theorem col_0 {f : Nat → Int32} {n : Nat} (h : n = 0) (g : Nat → Int32) : colOk f n ∧ colN f n = 0 ∧ colF f n g = g := ⟨Or.inl h, if_pos h, if_pos h⟩
theorem col_1 {f : Nat → Int32} {n : Nat} (h : n ≠ 0) (g : Nat → Int32) : (colOk f n ↔ clOk f n (n + 1) 0 0) ∧ colN f n = clN f n (n + 1) 0 0 ∧ colF f n g = clF f n (n + 1) 0 0 g := ⟨⟨fun q => q.elim (fun w => absurd w h) id, Or.inr⟩, if_neg h, if_neg h⟩
theorem cl_base {f : Nat → Int32} {n : Nat} : ∀ (t a z : Nat) (g k : Nat → Int32), (∀ j, j < z → g j = k j) → ∀ j, j < clN f n t a z → clF f n t a z g j = clF f n t a z k j
  | 0, _, z, g, k, h, j, hj => h j hj
  | t + 1, a, z, g, k, h, j, hj => by
    have hb : ∀ j, j < z + ptT f n a → fb_put g (fun _ => nI (ptV f n a)) z (ptT f n a) j = fb_put k (fun _ => nI (ptV f n a)) z (ptT f n a) j := by
      intro j hj
      by_cases hz : j < z
      · rw [fb_put_out (Or.inl hz), fb_put_out (Or.inl hz)]; exact h j hz
      · rw [fb_put_in (by omega) hj, fb_put_in (by omega) hj]
    have hj2 : j < (if n ≤ ptE f n a then z + ptT f n a else clN f n t (ptE f n a + 1) (z + ptT f n a)) := hj
    show (if n ≤ ptE f n a then fb_put g (fun _ => nI (ptV f n a)) z (ptT f n a) else clF f n t (ptE f n a + 1) (z + ptT f n a) (fb_put g (fun _ => nI (ptV f n a)) z (ptT f n a))) j = (if n ≤ ptE f n a then fb_put k (fun _ => nI (ptV f n a)) z (ptT f n a) else clF f n t (ptE f n a + 1) (z + ptT f n a) (fb_put k (fun _ => nI (ptV f n a)) z (ptT f n a))) j
    by_cases hn : n ≤ ptE f n a
    · rw [if_pos hn] at hj2; rw [if_pos hn, if_pos hn]; exact hb j hj2
    · rw [if_neg hn] at hj2; rw [if_neg hn, if_neg hn]; exact cl_base t _ _ _ _ hb j hj2
theorem col_tie {f g : Nat → Int32} {n : Nat} (h : txEq n f g) (a b : Nat → Int32) : (colOk f n ↔ colOk g n) ∧ colN f n = colN g n ∧ ∀ j, j < colN f n → colF f n a j = colF g n b j := by
  by_cases hn : n = 0
  · have e1 := col_0 (f := f) hn a
    have e2 := col_0 (f := g) hn b
    exact ⟨⟨fun _ => e2.1, fun _ => e1.1⟩, e1.2.1.trans e2.2.1.symm, fun j hj => by rw [e1.2.1] at hj; exact absurd hj (Nat.not_lt_zero j)⟩
  · have e1 := col_1 (f := f) hn a
    have e2 := col_1 (f := g) hn b
    have t := cl_eq h (n + 1) 0 0 a
    refine ⟨e1.1.trans (t.1.trans e2.1.symm), e1.2.1.trans (t.2.1.trans e2.2.1.symm), fun j hj => ?_⟩
    rw [e1.2.2, e2.2.2, t.2.2]
    exact cl_base (n + 1) 0 0 a b (fun j hj => absurd hj (Nat.not_lt_zero j)) j (by rw [← t.2.1, ← e1.2.1]; exact hj)
end GFC
