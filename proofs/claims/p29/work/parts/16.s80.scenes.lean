/-! scenes exchanged, put in and taken out -/
theorem z_eq0 {a : Nat} (h : a < 2147483648) : (nI a = (0 : Int32)) ↔ a = 0 := by rw [l0]; exact z_eq h (by omega)
theorem z_le0 {a : Nat} (h : a < 2147483648) : (nI a ≤ (0 : Int32)) ↔ a = 0 := by rw [l0, z_le h (by omega)]; omega
