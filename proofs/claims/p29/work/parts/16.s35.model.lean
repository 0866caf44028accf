/-! the model's one row of numbers; its order -/
section
variable {n : Nat} {num : Nat → Nat → Nat} {row : Nat → List Nat} {st : Nat → Nat} {s : Nat → Int32}
theorem pre_step {sc p : Nat} (hO : rowOk n row) (h : p < (row sc).length) : pre row (6 * sc + p + 1) = pre row (6 * sc + p) ++ [(gd (row sc) p, 6 * sc + p)] := by
  have h6 := hO.1 sc
  refine pre_some ?_
  rw [show (6 * sc + p) / 6 = sc by omega, show (6 * sc + p) % 6 = p by omega]
  exact getD_some h
theorem pre_skip {sc : Nat} (hO : rowOk n row) : ∀ d, (row sc).length + d ≤ 6 → pre row (6 * sc + ((row sc).length + d)) = pre row (6 * sc + (row sc).length)
  | 0, _ => rfl
  | d + 1, h => by
    rw [← pre_skip hO d (by omega)]
    show pre row (6 * sc + ((row sc).length + d) + 1) = _
    refine pre_none ?_
    rw [show (6 * sc + ((row sc).length + d)) / 6 = sc by omega, show (6 * sc + ((row sc).length + d)) % 6 = (row sc).length + d by omega]
    exact List.getElem?_eq_none (by omega)
theorem pre_next {sc : Nat} (hO : rowOk n row) : pre row (6 * (sc + 1)) = pre row (6 * sc + (row sc).length) := by
  have h6 := hO.1 sc
  have := pre_skip (sc := sc) hO (6 - (row sc).length) (by omega)
  rw [← this]; congr 1; omega
/-- the order holds the list -/
def ROr (L : List (Nat × Nat)) (order rank : Nat → Int32) : Prop := (∀ k, k < L.length → order k = nI (cd L k) ∧ rank (cd L k) = nI k) ∧ ∀ c, c < 40 → (∀ k, k < L.length → cd L k ≠ c) → rank c = -nI 5
theorem lst_skip {p : Nat → Bool} {a : Nat} : ∀ d, (∀ j, a ≤ j → j < a + d → p j = false) → lst p (a + d) = lst p a
  | 0, _ => rfl
  | d + 1, h => by
    rw [← Nat.add_assoc, lst_s, if_neg (by rw [h (a + d) (by omega) (by omega)]; decide)]
    exact lst_skip d (fun j h1 h2 => h j h1 (by omega))
/-- whether a card is at a slot -/
def atS (row : Nat → List Nat) (c t : Nat) : Bool := (row (t / 6))[t % 6]? == some c
theorem atS_iff {c t : Nat} : atS row c t = true ↔ (row (t / 6))[t % 6]? = some c := beq_iff_eq
/-- the slot of a card -/
def slotO (row : Nat → List Nat) (c : Nat) : Option Nat := lst (atS row c) 96
theorem slotO_some {c t : Nat} (h : slotO row c = some t) : t < 96 ∧ (row (t / 6))[t % 6]? = some c := by
  have := lst_lt _ h
  exact ⟨this.1, atS_iff.mp this.2⟩
theorem lst_none {p : Nat → Bool} : ∀ k, lst p k = none → ∀ j, j < k → p j = false
  | 0, _, j, h => absurd h (Nat.not_lt_zero _)
  | k + 1, h, j, hj => by
    rw [lst_s] at h
    by_cases hp : p k = true
    · rw [if_pos hp] at h; cases h
    · rw [if_neg hp] at h
      rcases Nat.lt_or_ge j k with q | q
      · exact lst_none k h j q
      · rw [show j = k by omega]; exact eq_false_of_ne_true hp
theorem slotO_none {c : Nat} (h : slotO row c = none) : ∀ t, t < 96 → ¬ (row (t / 6))[t % 6]? = some c := by
  intro t ht he
  have := lst_none _ h t ht
  rw [atS_iff.mpr he] at this; cases this
theorem slotO_at {c t : Nat} (h1 : once row) (ht : t < 96) (h : (row (t / 6))[t % 6]? = some c) : slotO row c = some t := by
  cases hs : slotO row c with
  | none => exact absurd h (slotO_none hs t ht)
  | some u =>
    have := slotO_some hs
    rw [h1 c u t this.1 ht this.2 h]
end
