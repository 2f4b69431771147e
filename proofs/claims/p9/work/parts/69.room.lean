theorem lw_rc {a k : Nat} (h : a + k ≤ 601022) : a + k ≤ room_1.cells := Nat.le_trans h (Nat.le_of_ble_eq_true rfl)
theorem lw_rs {a k : Nat} (h : a + k ≤ 7293032) : a + k ≤ room_1.slots := Nat.le_trans h (Nat.le_of_ble_eq_true rfl)
theorem lw_rc0 {a : Nat} (h : a ≤ 601022) : a ≤ room_1.cells := Nat.le_trans h (Nat.le_of_ble_eq_true rfl)
theorem lw_rs0 {a : Nat} (h : a ≤ 7293032) : a ≤ room_1.slots := Nat.le_trans h (Nat.le_of_ble_eq_true rfl)
