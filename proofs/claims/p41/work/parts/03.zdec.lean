section ZDEC
theorem zd_dite {c : ByteArray} {p : Nat} {b : UInt8} (hlt : p < c.size) (hg : c[p] = b) (d : Decidable (p < c.size)) : ((@dite (Decoder Nat) (p < c.size) d (fun hq => do set (p + 1); pure (c[p]'hq).toNat) (fun _ => throw (HasTruncated.truncated p))) c p) = .ok (b.toNat, p + 1) := by
  cases d with
  | isTrue hq =>
    show (Except.ok ((c[p]'hq).toNat, p + 1) : Except DecodeError (Nat × Nat)) = _
    rw [hg]
  | isFalse hq => exact absurd hlt hq
theorem zd_u1 {c : ByteArray} {p : Nat} {b : UInt8} {r : List UInt8} (h : c.data.toList.drop p = b :: r) : (Reader.u1 : Decoder Nat).runAt c p = .ok (b.toNat, p + 1) := by
  obtain ⟨⟨l⟩⟩ := c
  have h0 : l.drop p = b :: r := h
  have hlt : p < l.length := by
    rcases Nat.lt_or_ge p l.length with q | q
    · exact q
    · rw [List.drop_eq_nil_of_le q] at h0; cases h0
  have hg : l[p] = b := by
    have h1 : (l.drop p)[0]? = some b := by rw [h0]; rfl
    rw [List.getElem?_drop, Nat.add_zero, List.getElem?_eq_getElem hlt] at h1
    exact Option.some.inj h1
  exact zd_dite (c := ⟨⟨l⟩⟩) (p := p) (b := b) hlt hg (Nat.decLt p l.length)
theorem zd_next {l : List UInt8} {p : Nat} {b : UInt8} {r : List UInt8} (h : l.drop p = b :: r) : l.drop (p + 1) = r := by
  rw [← List.drop_drop, h]; rfl
theorem zd_bind {α β : Type} {r : Decoder α} {f : α → Decoder β} {c : ByteArray} {p q : Nat} {a : α} (h : r.runAt c p = .ok (a, q)) : (r >>= f).runAt c p = (f a).runAt c q := by
  have h' : (ReaderT.run r c).run p = .ok (a, q) := h
  show (ReaderT.run (r >>= f) c).run p = _
  rw [ReaderT.run_bind, StateT.run_bind, h']; rfl
theorem zd_u2 {c : ByteArray} {p : Nat} {b b' : UInt8} {r : List UInt8} (h : c.data.toList.drop p = b :: b' :: r) : (Reader.u2 : Decoder Nat).runAt c p = .ok (b.toNat * 256 + b'.toNat, p + 2) := by
  unfold Reader.u2
  rw [zd_bind (zd_u1 h), zd_bind (zd_u1 (zd_next h))]; rfl
theorem zd_map {α β : Type} {r : Decoder α} {g : α → β} {c : ByteArray} {p q : Nat} {a : α} (h : r.runAt c p = .ok (a, q)) : (g <$> r).runAt c p = .ok (g a, q) := by
  have h' : (ReaderT.run r c).run p = .ok (a, q) := h
  show (ReaderT.run (g <$> r) c).run p = _
  first
    | (rw [ReaderT.run_map, StateT.run_map, h']; rfl)
    | (show (ReaderT.run (r >>= fun x => pure (g x)) c).run p = _; rw [ReaderT.run_bind, StateT.run_bind, h']; rfl)
theorem zd_s1 {c : ByteArray} {p : Nat} {b : UInt8} {r : List UInt8} (h : c.data.toList.drop p = b :: r) : (Reader.s1 : Decoder Int).runAt c p = .ok (Reader.signed 8 b.toNat, p + 1) := zd_map (zd_u1 h)
theorem zd_s2 {c : ByteArray} {p : Nat} {b b' : UInt8} {r : List UInt8} (h : c.data.toList.drop p = b :: b' :: r) : (Reader.s2 : Decoder Int).runAt c p = .ok (Reader.signed 16 (b.toNat * 256 + b'.toNat), p + 2) := zd_map (zd_u2 h)
theorem zd_op {c : ByteArray} {p n : Nat} {b : UInt8} {r : List UInt8} {K : Nat → Decoder Instr} {i : Instr} (hI : Decoder.instr p = (Reader.u1 >>= K)) (h : c.data.toList.drop p = b :: r) (hk : (K b.toNat).runAt c (p + 1) = .ok (i, p + n)) : decode c p = .ok (i, n) := by
  have h1 : (Decoder.instr p).runAt c p = .ok (i, p + n) := by rw [hI, zd_bind (zd_u1 h)]; exact hk
  unfold decode
  rw [h1]
  show (Except.ok (i, p + n - p) : Except DecodeError (Instr × Nat)) = _
  rw [Nat.add_sub_cancel_left]
def zt1 : List (Nat × Instr) := [(2, .iconst (-1)), (3, .iconst 0), (4, .iconst 1), (5, .iconst 2), (6, .iconst 3), (7, .iconst 4), (8, .iconst 5), (9, .lconst 0), (10, .lconst 1), (26, .iload_n 0), (27, .iload_n 1), (28, .iload_n 2), (29, .iload_n 3), (30, .lload_n 0), (31, .lload_n 1), (32, .lload_n 2), (33, .lload_n 3), (42, .aload_n 0), (43, .aload_n 1), (44, .aload_n 2), (45, .aload_n 3), (46, .iaload), (47, .laload), (50, .aaload), (59, .istore_n 0), (60, .istore_n 1), (61, .istore_n 2), (62, .istore_n 3), (63, .lstore_n 0), (64, .lstore_n 1), (65, .lstore_n 2), (66, .lstore_n 3), (75, .astore_n 0), (76, .astore_n 1), (77, .astore_n 2), (78, .astore_n 3), (79, .iastore), (80, .lastore), (87, .pop), (89, .dup), (92, .dup2), (96, .iadd), (97, .ladd), (100, .isub), (101, .lsub), (104, .imul), (108, .idiv), (116, .ineg), (120, .ishl), (121, .lshl), (122, .ishr), (124, .iushr), (125, .lushr), (126, .iand), (127, .land), (128, .ior), (129, .lor), (130, .ixor), (131, .lxor), (133, .i2l), (136, .l2i), (148, .lcmp), (172, .ireturn), (173, .lreturn), (177, .return_), (190, .arraylength), (191, .athrow)]
def zt2 : List (Nat × (Nat → Instr)) := [(18, (.ldc ·)), (21, (.iload ·)), (22, (.lload ·)), (25, (.aload ·)), (54, (.istore ·)), (55, (.lstore ·)), (58, (.astore ·))]
def zt2s : List (Nat × (Int → Instr)) := [(16, (.bipush ·))]
def zt3 : List (Nat × (Nat → Instr)) := [(19, (.ldc_w ·)), (20, (.ldc2_w ·)), (180, (.getfield ·)), (181, (.putfield ·)), (182, (.invokevirtual ·)), (183, (.invokespecial ·)), (184, (.invokestatic ·)), (187, (.new ·))]
def zt3s : List (Nat × (Int → Instr)) := [(17, (.sipush ·)), (153, (.ifCond .eq ·)), (154, (.ifCond .ne ·)), (155, (.ifCond .lt ·)), (156, (.ifCond .ge ·)), (157, (.ifCond .gt ·)), (158, (.ifCond .le ·)), (159, (.if_icmp .eq ·)), (160, (.if_icmp .ne ·)), (161, (.if_icmp .lt ·)), (162, (.if_icmp .ge ·)), (163, (.if_icmp .gt ·)), (164, (.if_icmp .le ·)), (167, (.goto ·))]
set_option maxRecDepth 100000 in
set_option maxHeartbeats 4000000 in
theorem zt_ok : ∃ K : Nat → Nat → Decoder Instr, (∀ p, Decoder.instr p = (Reader.u1 >>= K p)) ∧ (∀ e ∈ zt1, ∀ p, K p e.1 = Pure.pure e.2) ∧ (∀ e ∈ zt2, ∀ p, K p e.1 = (Reader.u1 >>= fun x => Pure.pure (e.2 x))) ∧ (∀ e ∈ zt2s, ∀ p, K p e.1 = (Reader.s1 >>= fun x => Pure.pure (e.2 x))) ∧ (∀ e ∈ zt3, ∀ p, K p e.1 = (Reader.u2 >>= fun x => Pure.pure (e.2 x))) ∧ (∀ e ∈ zt3s, ∀ p, K p e.1 = (Reader.s2 >>= fun x => Pure.pure (e.2 x))) ∧ (∀ p, K p 132 = (Reader.u1 >>= fun x => Reader.s1 >>= fun y => Pure.pure (.iinc x y))) :=
  ⟨_, fun _ => rfl, List.forall_mem_cons.mpr ⟨fun _ => rfl, List.forall_mem_cons.mpr ⟨fun _ => rfl, List.forall_mem_cons.mpr ⟨fun _ => rfl, List.forall_mem_cons.mpr ⟨fun _ => rfl, List.forall_mem_cons.mpr ⟨fun _ => rfl, List.forall_mem_cons.mpr ⟨fun _ => rfl, List.forall_mem_cons.mpr ⟨fun _ => rfl, List.forall_mem_cons.mpr ⟨fun _ => rfl, List.forall_mem_cons.mpr ⟨fun _ => rfl, List.forall_mem_cons.mpr ⟨fun _ => rfl, List.forall_mem_cons.mpr ⟨fun _ => rfl, List.forall_mem_cons.mpr ⟨fun _ => rfl, List.forall_mem_cons.mpr ⟨fun _ => rfl, List.forall_mem_cons.mpr ⟨fun _ => rfl, List.forall_mem_cons.mpr ⟨fun _ => rfl, List.forall_mem_cons.mpr ⟨fun _ => rfl, List.forall_mem_cons.mpr ⟨fun _ => rfl, List.forall_mem_cons.mpr ⟨fun _ => rfl, List.forall_mem_cons.mpr ⟨fun _ => rfl, List.forall_mem_cons.mpr ⟨fun _ => rfl, List.forall_mem_cons.mpr ⟨fun _ => rfl, List.forall_mem_cons.mpr ⟨fun _ => rfl, List.forall_mem_cons.mpr ⟨fun _ => rfl, List.forall_mem_cons.mpr ⟨fun _ => rfl, List.forall_mem_cons.mpr ⟨fun _ => rfl, List.forall_mem_cons.mpr ⟨fun _ => rfl, List.forall_mem_cons.mpr ⟨fun _ => rfl, List.forall_mem_cons.mpr ⟨fun _ => rfl, List.forall_mem_cons.mpr ⟨fun _ => rfl, List.forall_mem_cons.mpr ⟨fun _ => rfl, List.forall_mem_cons.mpr ⟨fun _ => rfl, List.forall_mem_cons.mpr ⟨fun _ => rfl, List.forall_mem_cons.mpr ⟨fun _ => rfl, List.forall_mem_cons.mpr ⟨fun _ => rfl, List.forall_mem_cons.mpr ⟨fun _ => rfl, List.forall_mem_cons.mpr ⟨fun _ => rfl, List.forall_mem_cons.mpr ⟨fun _ => rfl, List.forall_mem_cons.mpr ⟨fun _ => rfl, List.forall_mem_cons.mpr ⟨fun _ => rfl, List.forall_mem_cons.mpr ⟨fun _ => rfl, List.forall_mem_cons.mpr ⟨fun _ => rfl, List.forall_mem_cons.mpr ⟨fun _ => rfl, List.forall_mem_cons.mpr ⟨fun _ => rfl, List.forall_mem_cons.mpr ⟨fun _ => rfl, List.forall_mem_cons.mpr ⟨fun _ => rfl, List.forall_mem_cons.mpr ⟨fun _ => rfl, List.forall_mem_cons.mpr ⟨fun _ => rfl, List.forall_mem_cons.mpr ⟨fun _ => rfl, List.forall_mem_cons.mpr ⟨fun _ => rfl, List.forall_mem_cons.mpr ⟨fun _ => rfl, List.forall_mem_cons.mpr ⟨fun _ => rfl, List.forall_mem_cons.mpr ⟨fun _ => rfl, List.forall_mem_cons.mpr ⟨fun _ => rfl, List.forall_mem_cons.mpr ⟨fun _ => rfl, List.forall_mem_cons.mpr ⟨fun _ => rfl, List.forall_mem_cons.mpr ⟨fun _ => rfl, List.forall_mem_cons.mpr ⟨fun _ => rfl, List.forall_mem_cons.mpr ⟨fun _ => rfl, List.forall_mem_cons.mpr ⟨fun _ => rfl, List.forall_mem_cons.mpr ⟨fun _ => rfl, List.forall_mem_cons.mpr ⟨fun _ => rfl, List.forall_mem_cons.mpr ⟨fun _ => rfl, List.forall_mem_cons.mpr ⟨fun _ => rfl, List.forall_mem_cons.mpr ⟨fun _ => rfl, List.forall_mem_cons.mpr ⟨fun _ => rfl, List.forall_mem_cons.mpr ⟨fun _ => rfl, List.forall_mem_cons.mpr ⟨fun _ => rfl, fun _ h => absurd h List.not_mem_nil⟩⟩⟩⟩⟩⟩⟩⟩⟩⟩⟩⟩⟩⟩⟩⟩⟩⟩⟩⟩⟩⟩⟩⟩⟩⟩⟩⟩⟩⟩⟩⟩⟩⟩⟩⟩⟩⟩⟩⟩⟩⟩⟩⟩⟩⟩⟩⟩⟩⟩⟩⟩⟩⟩⟩⟩⟩⟩⟩⟩⟩⟩⟩⟩⟩⟩⟩, List.forall_mem_cons.mpr ⟨fun _ => rfl, List.forall_mem_cons.mpr ⟨fun _ => rfl, List.forall_mem_cons.mpr ⟨fun _ => rfl, List.forall_mem_cons.mpr ⟨fun _ => rfl, List.forall_mem_cons.mpr ⟨fun _ => rfl, List.forall_mem_cons.mpr ⟨fun _ => rfl, List.forall_mem_cons.mpr ⟨fun _ => rfl, fun _ h => absurd h List.not_mem_nil⟩⟩⟩⟩⟩⟩⟩, List.forall_mem_cons.mpr ⟨fun _ => rfl, fun _ h => absurd h List.not_mem_nil⟩, List.forall_mem_cons.mpr ⟨fun _ => rfl, List.forall_mem_cons.mpr ⟨fun _ => rfl, List.forall_mem_cons.mpr ⟨fun _ => rfl, List.forall_mem_cons.mpr ⟨fun _ => rfl, List.forall_mem_cons.mpr ⟨fun _ => rfl, List.forall_mem_cons.mpr ⟨fun _ => rfl, List.forall_mem_cons.mpr ⟨fun _ => rfl, List.forall_mem_cons.mpr ⟨fun _ => rfl, fun _ h => absurd h List.not_mem_nil⟩⟩⟩⟩⟩⟩⟩⟩, List.forall_mem_cons.mpr ⟨fun _ => rfl, List.forall_mem_cons.mpr ⟨fun _ => rfl, List.forall_mem_cons.mpr ⟨fun _ => rfl, List.forall_mem_cons.mpr ⟨fun _ => rfl, List.forall_mem_cons.mpr ⟨fun _ => rfl, List.forall_mem_cons.mpr ⟨fun _ => rfl, List.forall_mem_cons.mpr ⟨fun _ => rfl, List.forall_mem_cons.mpr ⟨fun _ => rfl, List.forall_mem_cons.mpr ⟨fun _ => rfl, List.forall_mem_cons.mpr ⟨fun _ => rfl, List.forall_mem_cons.mpr ⟨fun _ => rfl, List.forall_mem_cons.mpr ⟨fun _ => rfl, List.forall_mem_cons.mpr ⟨fun _ => rfl, List.forall_mem_cons.mpr ⟨fun _ => rfl, fun _ h => absurd h List.not_mem_nil⟩⟩⟩⟩⟩⟩⟩⟩⟩⟩⟩⟩⟩⟩, fun _ => rfl⟩
/-- one row out of the bytes that begin with it -/
def zdec : List UInt8 → Option (Instr × Nat)
  | [] => none
  | b :: r => match zt1.find? (fun e => e.1 == b.toNat) with
    | some e => some (e.2, 1)
    | none => match r with
      | [] => none
      | b1 :: r1 => match zt2.find? (fun e => e.1 == b.toNat) with
        | some e => some (e.2 b1.toNat, 2)
        | none => match zt2s.find? (fun e => e.1 == b.toNat) with
          | some e => some (e.2 (Reader.signed 8 b1.toNat), 2)
          | none => match r1 with
            | [] => none
            | b2 :: _ => match zt3.find? (fun e => e.1 == b.toNat) with
              | some e => some (e.2 (b1.toNat * 256 + b2.toNat), 3)
              | none => match zt3s.find? (fun e => e.1 == b.toNat) with
                | some e => some (e.2 (Reader.signed 16 (b1.toNat * 256 + b2.toNat)), 3)
                | none => if b.toNat = 132 then some (.iinc b1.toNat (Reader.signed 8 b2.toNat), 3) else none
theorem zf {α : Type} {T : List (Nat × α)} {k : Nat} {e : Nat × α} (h : T.find? (fun e => e.1 == k) = some e) : e ∈ T ∧ e.1 = k := ⟨List.mem_of_find?_eq_some h, by have h1 := List.find?_some h; simpa using h1⟩
theorem zdec_ok {c : ByteArray} {p n : Nat} {i : Instr} {bs : List UInt8} (h : c.data.toList.drop p = bs) (hd : zdec bs = some (i, n)) : decode c p = .ok (i, n) := by
  obtain ⟨K, hI, k1, k2, k2s, k3, k3s, ki⟩ := zt_ok
  cases bs with
  | nil => cases hd
  | cons b r =>
    have hn := zd_next h
    unfold zdec at hd
    cases h1 : zt1.find? (fun e => e.1 == b.toNat) with
    | some e =>
      simp only [h1] at hd
      obtain ⟨rfl, rfl⟩ : e.2 = i ∧ 1 = n := by simpa using hd
      obtain ⟨q1, q2⟩ := zf h1
      exact zd_op (hI p) h (by rw [← q2, k1 e q1]; rfl)
    | none =>
      simp only [h1] at hd
      cases r with
      | nil => cases hd
      | cons b1 r1 =>
        cases h2 : zt2.find? (fun e => e.1 == b.toNat) with
        | some e =>
          simp only [h2] at hd
          obtain ⟨rfl, rfl⟩ : e.2 b1.toNat = i ∧ 2 = n := by simpa using hd
          obtain ⟨q1, q2⟩ := zf h2
          exact zd_op (hI p) h (by rw [← q2, k2 e q1, zd_bind (zd_u1 hn)]; rfl)
        | none =>
          simp only [h2] at hd
          cases h3 : zt2s.find? (fun e => e.1 == b.toNat) with
          | some e =>
            simp only [h3] at hd
            obtain ⟨rfl, rfl⟩ : e.2 (Reader.signed 8 b1.toNat) = i ∧ 2 = n := by simpa using hd
            obtain ⟨q1, q2⟩ := zf h3
            exact zd_op (hI p) h (by rw [← q2, k2s e q1, zd_bind (zd_s1 hn)]; rfl)
          | none =>
            simp only [h3] at hd
            cases r1 with
            | nil => cases hd
            | cons b2 r2 =>
              cases h4 : zt3.find? (fun e => e.1 == b.toNat) with
              | some e =>
                simp only [h4] at hd
                obtain ⟨rfl, rfl⟩ : e.2 (b1.toNat * 256 + b2.toNat) = i ∧ 3 = n := by simpa using hd
                obtain ⟨q1, q2⟩ := zf h4
                exact zd_op (hI p) h (by rw [← q2, k3 e q1, zd_bind (zd_u2 hn)]; rfl)
              | none =>
                simp only [h4] at hd
                cases h5 : zt3s.find? (fun e => e.1 == b.toNat) with
                | some e =>
                  simp only [h5] at hd
                  obtain ⟨rfl, rfl⟩ : e.2 (Reader.signed 16 (b1.toNat * 256 + b2.toNat)) = i ∧ 3 = n := by simpa using hd
                  obtain ⟨q1, q2⟩ := zf h5
                  exact zd_op (hI p) h (by rw [← q2, k3s e q1, zd_bind (zd_s2 hn)]; rfl)
                | none =>
                  simp only [h5] at hd
                  by_cases h6 : b.toNat = 132
                  · rw [if_pos h6] at hd
                    obtain ⟨rfl, rfl⟩ : Instr.iinc b1.toNat (Reader.signed 8 b2.toNat) = i ∧ 3 = n := by simpa using hd
                    exact zd_op (hI p) h (by rw [h6, ki p, zd_bind (zd_u1 hn), zd_bind (zd_s1 (zd_next hn))]; rfl)
                  · rw [if_neg h6] at hd; cases hd
/-- rows one behind another, the bytes dropped as they are read -/
def zck : Nat → List UInt8 → List (Nat × Instr × Nat) → Bool
  | _, _, [] => true
  | p, bs, r :: rs => r.1 == p && (decide (zdec bs = some r.2) && zck (p + r.2.2) (bs.drop r.2.2) rs)
theorem zck_ok {c : ByteArray} : ∀ (rs : List (Nat × Instr × Nat)) {p : Nat} {bs : List UInt8}, c.data.toList.drop p = bs → zck p bs rs = true → ∀ r ∈ rs, decode c r.1 = .ok r.2
  | [], _, _, _, _, _, hr => absurd hr List.not_mem_nil
  | r :: rs, p, bs, h, hc, x, hx => by
    have hc' : (r.1 == p && (decide (zdec bs = some r.2) && zck (p + r.2.2) (bs.drop r.2.2) rs)) = true := hc
    rw [Bool.and_eq_true, Bool.and_eq_true] at hc'
    obtain ⟨e1, e2, e3⟩ := hc'
    have e1' : r.1 = p := by simpa using e1
    rcases List.mem_cons.mp hx with q | q
    · rw [q, e1']; exact zdec_ok h (of_decide_eq_true e2)
    · exact zck_ok rs (by rw [← List.drop_drop, h]) e3 x q
def zcj (c : ByteArray) : List (Nat × Instr × Nat) → Prop
  | [] => True
  | r :: rs => decode c r.1 = .ok r.2 ∧ zcj c rs
theorem zj_all {c : ByteArray} : ∀ {L : List (Nat × Instr × Nat)}, (∀ r ∈ L, decode c r.1 = .ok r.2) → zcj c L
  | [], _ => trivial
  | _ :: _, h => ⟨h _ List.mem_cons_self, zj_all (fun x hx => h x (List.mem_cons_of_mem _ hx))⟩
theorem zj_of {c : ByteArray} {p : Nat} {L : List (Nat × Instr × Nat)} (h : zck p (c.data.toList.drop p) L = true) : zcj c L := zj_all (zck_ok L rfl h)
end ZDEC
