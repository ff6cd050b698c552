/-! room for a loop inside a loop -/
theorem room_n (x : Nat) {a p t : Nat} (h : (a + p).ble t = true) : x + a + p ≤ x + t := by
  have := Nat.le_of_ble_eq_true h
  omega
theorem room_n0 (x : Nat) {p t : Nat} (h : p.ble t = true) : x + p ≤ x + t := Nat.add_le_add_left (Nat.le_of_ble_eq_true h) x
