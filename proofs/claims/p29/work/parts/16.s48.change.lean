/-! changing a card -/
section
variable {n : Nat} {num : Nat → Nat → Nat} {row : Nat → List Nat} {st : Nat → Nat} {s : Nat → Int32}
def kindR (k lo hi : Nat) : Prop := (k = 0 ∧ lo = 0 ∧ hi = 9999) ∨ (k = 1 ∧ lo = 1 ∧ hi = 999) ∨ (k = 2 ∧ lo = 0 ∧ hi = 100) ∨ (k = 3 ∧ lo = 0 ∧ hi = 1)
theorem kindR_ex {k : Nat} (hk : k < 4) : ∃ lo hi, kindR k lo hi ∧ lo ≤ hi ∧ hi ≤ 9999 ∧ gLEAST (k + 1) = nI lo ∧ gMOST (k + 1) = nI hi := by
  rcases (show k = 0 ∨ k = 1 ∨ k = 2 ∨ k = 3 by omega) with rfl | rfl | rfl | rfl
  · exact ⟨0, 9999, Or.inl ⟨rfl, rfl, rfl⟩, by omega, by omega, rfl, rfl⟩
  · exact ⟨1, 999, Or.inr (Or.inl ⟨rfl, rfl, rfl⟩), by omega, by omega, rfl, rfl⟩
  · exact ⟨0, 100, Or.inr (Or.inr (Or.inl ⟨rfl, rfl, rfl⟩)), by omega, by omega, rfl, rfl⟩
  · exact ⟨0, 1, Or.inr (Or.inr (Or.inr ⟨rfl, rfl, rfl⟩)), by omega, by omega, rfl, rfl⟩
end
def chg (num : Nat → Nat → Nat) (j k v : Nat) : Nat → Nat → Nat := fun c i => if c = j ∧ i = k then v else num c i
theorem chg_ok {n : Nat} {num : Nat → Nat → Nat} {j k v lo hi : Nat} (hN : numOk n num) (hK : kindR k lo hi) (h1 : lo ≤ v) (h2 : v ≤ hi) : numOk n (chg num j (k + 1) v) := by
  intro c hc
  have := hN c hc
  unfold chg
  by_cases hcj : c = j
  · rcases hK with ⟨rfl, rfl, rfl⟩ | ⟨rfl, rfl, rfl⟩ | ⟨rfl, rfl, rfl⟩ | ⟨rfl, rfl, rfl⟩ <;> simp [hcj] <;> subst hcj <;> omega
  · simp [hcj]; exact this
