/-! a scene put in, a scene taken out -/
/-- a hole that wanders on -/
def mvS (sc h : Nat) : Nat → Nat := fun j => if j < sc then j else if j < h then j + 1 else if j = h then sc else j
section
variable {n : Nat} {num : Nat → Nat → Nat} {row : Nat → List Nat} {st : Nat → Nat} {s : Nat → Int32}
theorem x_at {r : Nat → List Nat} {a b k : Nat} : xRow r a b k = r (if k = a then b else if k = b then a else k) := by rw [x_perm]; rfl
theorem ins_step {k j : Nat} (hk : 0 < k) (hk2 : k ≤ 15) (hj : j < 16) : permRow row (insS (k - 1)) j = xRow (permRow row (insS k)) (k - 1) k j := by
  rw [x_at]
  unfold permRow insS
  congr 1
  first | omega | ((repeat' split) <;> omega)
theorem ins_15 {j : Nat} (hj : j < 16) : permRow row (insS 15) j = row j := by
  unfold permRow insS
  by_cases h : j < 15
  · rw [if_pos h]
  · rw [if_neg h, if_pos (by omega)]; congr 1; omega
/-- the wall of the class with a scene put in -/
theorem s_ins {g : Nat → Int32} {I : Int32 → (Nat → Int32) → Prop} {sc k : Nat} (hW : RW (permRow row (insS k)) g) (hk : sc < k) (hk2 : k ≤ 15) (h : ∀ g', RW (permRow row (insS (k - 1))) g' → I (nI (k - 1)) g') : wp_X7_exchangeScenes (nI k - 1) (nI k) g (fun u => I (nI k + -1) u) := by
  have e1 : nI k - (1 : Int32) = nI (k - 1) := by rw [l1, z_sub (by omega)]
  have e2 : nI k + (-1 : Int32) = nI (k - 1) := by rw [show (-1 : Int32) = -nI 1 from rfl, z_addn (by omega)]
  rw [e1]
  refine s_exchangeScenes hW (by omega) (by omega) (by omega) (fun g' hg' => ?_)
  rw [e2]
  exact h g' (RW_congr hg' (fun j hj => ins_step (by omega) hk2 hj))
end
