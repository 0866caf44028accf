/-! what a card tells -/
theorem pre_has {n : Nat} {row : Nat → List Nat} {t c : Nat} (hO : rowOk n row) (h : t < 96 ∧ (row (t / 6))[t % 6]? = some c) : ∃ k, k < (pre row 96).length ∧ cd (pre row 96) k = c := by
  have hm : (c, t) ∈ pre row 96 := (pre_mem row 96).mpr h
  obtain ⟨k, hk, he⟩ := List.mem_iff_getElem.mp hm
  refine ⟨k, hk, ?_⟩
  unfold cd
  rw [List.getD_eq_getElem?_getD, List.getElem?_eq_getElem hk, he]; rfl
