/-! what the model counts, told by the list -/
def T6 (num : Nat → Nat → Nat) (L : List (Nat × Nat)) : Prop := ∀ k, k < L.length → num (cd L k) 0 < 6 ∧ num (cd L k) 4 ≤ 1
theorem T6_of {n : Nat} {num : Nat → Nat → Nat} {L : List (Nat × Nat)} (hD : RRd n num L) : T6 num L := fun k hk => by
  have := hD.2.1 _ (hD.1.2.1 k hk).1
  exact ⟨by omega, by omega⟩
theorem sA_pS {num : Nat → Nat → Nat} {L : List (Nat × Nat)} {t k : Nat} (hp : pS num L t k = true) : sA num L k = lst (pS num L t) k := by
  unfold pS at hp
  rw [Bool.and_eq_true, beq_iff_eq, beq_iff_eq] at hp
  unfold sA
  rw [if_neg (by omega), hp.1]; rfl
theorem pS_cases {num : Nat → Nat → Nat} {L : List (Nat × Nat)} (h6 : T6 num L) {t k : Nat} (hk : k < L.length) : pS num L t k = true ∨ (pS num L t k = false ∧ (num (cd L k) 0 ≠ t ∨ sA num L k = none)) := by
  have h := h6 k hk
  by_cases h1 : num (cd L k) 0 = t
  · by_cases h2 : num (cd L k) 4 = 0
    · left; unfold pS; rw [h1, h2]; simp
    · right
      refine ⟨by unfold pS; rw [beq_eq_false_iff_ne.mpr h2]; simp, Or.inr ?_⟩
      unfold sA; rw [if_pos (by omega)]
  · right
    exact ⟨by unfold pS; rw [beq_eq_false_iff_ne.mpr h1]; simp, Or.inl h1⟩
/-- all breaks of a thread -/
theorem brM_tally {num : Nat → Nat → Nat} {st : Nat → Nat} {L : List (Nat × Nat)} {t : Nat} {sc : Option Nat} (h6 : T6 num L) : brM num L (flt (pS num L t) L.length) sc none (flt (pS num L t) L.length).length = tallyF num st L 12 (some t) sc := by
  unfold brM tallyF
  rw [tie (p := pS num L t) (Q := fun a b => isQ num L sc none a b), cnt_sumN]
  refine sumN_congr _ (fun k hk => ?_)
  have ew : worthF num st L 12 k = b2n (isBrk num L k) := rfl
  rw [ew]
  show b2n (pS num L t k && onL (fun a b => isQ num L sc none a b) k (lst (pS num L t) k)) = if (num (cd L k) 0 == t) && fits sc (sl L k / 6) then b2n (isBrk num L k) else 0
  rcases pS_cases (t := t) h6 hk with hp | ⟨hp, hq⟩
  · have hs := sA_pS hp
    have ht : (num (cd L k) 0 == t) = true := by
      unfold pS at hp; rw [Bool.and_eq_true] at hp; exact hp.1
    rw [hp, ht, Bool.true_and, Bool.true_and]
    unfold isBrk
    rw [hs]
    cases lst (pS num L t) k with
    | none => show b2n false = if _ then b2n false else 0; split <;> rfl
    | some b =>
      show b2n (decide (num (cd L k) 1 < num (cd L b) 1) && (fits sc (sl L k / 6) && true)) = if fits sc (sl L k / 6) then b2n (decide (num (cd L k) 1 < num (cd L b) 1)) else 0
      cases fits sc (sl L k / 6) <;> cases decide (num (cd L k) 1 < num (cd L b) 1) <;> rfl
  · rw [hp]
    rcases hq with hq | hq
    · rw [beq_eq_false_iff_ne.mpr hq]; rfl
    · unfold isBrk
      rw [hq]
      show b2n false = if _ then b2n false else 0
      split <;> rfl
theorem tally_all {num : Nat → Nat → Nat} {st : Nat → Nat} {L : List (Nat × Nat)} {w : Nat} {sc : Option Nat} (h6 : T6 num L) : sumN (fun t => tallyF num st L w (some t) sc) 6 = tallyF num st L w none sc :=
  sum_swap (x := fun k => num (cd L k) 0) (c := fun k => fits sc (sl L k / 6)) (w := fun k => worthF num st L w k) L.length (fun k hk => (h6 k hk).1)
theorem tallyF_le2 {n : Nat} {num : Nat → Nat → Nat} {st : Nat → Nat} {L : List (Nat × Nat)} {w : Nat} {t sc : Option Nat} (hD : RRd n num L) : tallyF num st L w t sc ≤ 39960 := tallyF_le hD (Nat.le_refl _)
section
variable {n : Nat} {num : Nat → Nat → Nat} {row : Nat → List Nat} {st : Nat → Nat} {s : Nat → Int32}
/-- threads that stand -/
def stnd (num : Nat → Nat → Nat) (st : Nat → Nat) (L : List (Nat × Nat)) : Nat → Nat := cnt (fun t => tallyF num st L 12 (some t) none == 0)
/-- time holes -/
def isT (num : Nat → Nat → Nat) (s1 : Nat) (L : List (Nat × Nat)) (a b : Nat) : Bool := decide (num (cd L a) 1 + s1 < num (cd L b) 1)
theorem tiM_tally {L : List (Nat × Nat)} {t : Nat} (h6 : T6 num L) : cnt (fun i => decide (0 < i) && isT num (st 1) L ((flt (pS num L t) L.length).getD (i - 1) 0) ((flt (pS num L t) L.length).getD i 0)) (flt (pS num L t) L.length).length = tallyF num st L 14 (some t) none := by
  unfold tallyF
  rw [tie (p := pS num L t) (Q := fun a b => isT num (st 1) L a b), cnt_sumN]
  refine sumN_congr _ (fun k hk => ?_)
  have ew : worthF num st L 14 k = b2n (isTiH num (st 1) L k) := rfl
  rw [ew]
  show b2n (pS num L t k && onL (fun a b => isT num (st 1) L a b) k (lst (pS num L t) k)) = if (num (cd L k) 0 == t) && true then b2n (isTiH num (st 1) L k) else 0
  rw [Bool.and_true]
  rcases pS_cases (t := t) h6 hk with hp | ⟨hp, hq⟩
  · have hs := sA_pS hp
    have ht : (num (cd L k) 0 == t) = true := by
      unfold pS at hp; rw [Bool.and_eq_true] at hp; exact hp.1
    rw [hp, ht, Bool.true_and, if_pos rfl]
    unfold isTiH
    rw [hs]
    cases lst (pS num L t) k with
    | none => rfl
    | some b => rfl
  · rw [hp]
    rcases hq with hq | hq
    · rw [beq_eq_false_iff_ne.mpr hq]; rfl
    · unfold isTiH
      rw [hq]
      show b2n false = if _ then b2n false else 0
      split <;> rfl
/-- thread holes -/
theorem aA_pT {L : List (Nat × Nat)} {t k : Nat} (hp : num (cd L k) 0 = t) : aA num L k = lst (fun j => num (cd L j) 0 == t) k := by unfold aA; rw [hp]
end
