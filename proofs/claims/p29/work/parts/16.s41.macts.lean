/-! the acts of the model on the rows -/
def outS (sc : Nat) (s s2 : Nat → Int32) : Prop := ∀ i, i < 316 → (i < 204 + 7 * sc ∨ 204 + 7 * sc + 7 ≤ i) → s2 i = s i
section
variable {n : Nat} {num : Nat → Nat → Nat} {row : Nat → List Nat} {st : Nat → Nat} {s : Nat → Int32}
theorem gd_erase {L : List Nat} {p j : Nat} : gd (L.eraseIdx p) j = if j < p then gd L j else gd L (j + 1) := by
  unfold gd
  rw [List.getD_eq_getElem?_getD, List.getD_eq_getElem?_getD, List.getD_eq_getElem?_getD, List.getElem?_eraseIdx]
  split <;> rfl
theorem gd_insert {L : List Nat} {p c j : Nat} (hp : p ≤ L.length) : gd (L.insertIdx p c) j = if j < p then gd L j else if j = p then c else gd L (j - 1) := by
  unfold gd
  rw [List.getD_eq_getElem?_getD, List.getD_eq_getElem?_getD, List.getD_eq_getElem?_getD, List.getElem?_insertIdx]
  by_cases h : j < p
  · simp [h]
  · by_cases h2 : j = p
    · subst h2; simp [hp]
    · simp [h, h2]
end
