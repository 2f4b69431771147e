section GFA
end GFA
section GFA2
end GFA2
section GFA3
/-- pairs turned round: those of place i with places j0 .. j less 1 -/
def tnI (f : Nat → Int32) (i j0 : Nat) : Nat → Nat
  | 0 => 0
  | j + 1 => tnI f i j0 j + (if j0 ≤ j ∧ (f j).toInt < (f i).toInt then 1 else 0)
theorem tnI_0 {f : Nat → Int32} {i j0 : Nat} : ∀ {j : Nat}, j ≤ j0 → tnI f i j0 j = 0
  | 0, _ => rfl
  | j + 1, h => by
    show tnI f i j0 j + (if j0 ≤ j ∧ (f j).toInt < (f i).toInt then 1 else 0) = 0
    rw [tnI_0 (by omega), if_neg (by omega)]
theorem tnI_y {f : Nat → Int32} {i j0 j t u : Nat} (h : t = u + tnI f i j0 j) (h1 : j0 ≤ j) (d : (f j).toInt < (f i).toInt) : t + 1 = u + tnI f i j0 (j + 1) := by
  show _ = u + (tnI f i j0 j + (if j0 ≤ j ∧ (f j).toInt < (f i).toInt then 1 else 0))
  rw [if_pos ⟨h1, d⟩, h]; omega
theorem tnI_n {f : Nat → Int32} {i j0 j t u : Nat} (h : t = u + tnI f i j0 j) (d : ¬ (f j).toInt < (f i).toInt) : t = u + tnI f i j0 (j + 1) := by
  show _ = u + (tnI f i j0 j + (if j0 ≤ j ∧ (f j).toInt < (f i).toInt then 1 else 0))
  rw [if_neg (fun q => d q.2), h]; omega
theorem tnI_cong {f g : Nat → Int32} {i j0 : Nat} (hi : f i = g i) : ∀ {j : Nat}, (∀ q, q < j → f q = g q) → tnI f i j0 j = tnI g i j0 j
  | 0, _ => rfl
  | j + 1, h => by
    show tnI f i j0 j + (if j0 ≤ j ∧ (f j).toInt < (f i).toInt then 1 else 0) = tnI g i j0 j + (if j0 ≤ j ∧ (g j).toInt < (g i).toInt then 1 else 0)
    rw [tnI_cong hi (fun q hq => h q (by omega)), hi, h j (by omega)]
/-- of the places a .. k less 1 with all behind them below b -/
def tnO (f : Nat → Int32) (a b : Nat) : Nat → Nat
  | 0 => 0
  | k + 1 => tnO f a b k + (if a ≤ k then tnI f k (k + 1) b else 0)
theorem tnO_0 {f : Nat → Int32} {a b : Nat} : ∀ {k : Nat}, k ≤ a → tnO f a b k = 0
  | 0, _ => rfl
  | k + 1, h => by
    show tnO f a b k + (if a ≤ k then tnI f k (k + 1) b else 0) = 0
    rw [tnO_0 (by omega), if_neg (by omega)]
theorem tnO_s {f : Nat → Int32} {a b k t : Nat} (h : t = tnO f a b k + tnI f k (k + 1) b) (hk : a ≤ k) : t = tnO f a b (k + 1) := by
  show t = tnO f a b k + (if a ≤ k then tnI f k (k + 1) b else 0)
  rw [if_pos hk, h]
theorem tnO_cong {f g : Nat → Int32} {a b n : Nat} (h : ∀ j, j < n → f j = g j) (hb : b ≤ n) : ∀ {k : Nat}, k ≤ b → tnO f a b k = tnO g a b k
  | 0, _ => rfl
  | k + 1, hk => by
    show tnO f a b k + (if a ≤ k then tnI f k (k + 1) b else 0) = tnO g a b k + (if a ≤ k then tnI g k (k + 1) b else 0)
    rw [tnO_cong h hb (by omega), tnI_cong (h k (by omega)) (fun q hq => h q (by omega))]
end GFA3
section GFA4
end GFA4
section GFA5
end GFA5
section GFA6
end GFA6
