/-! the breaks one by one; what a card tells -/
theorem brM_card {num : Nat → Nat → Nat} {L : List (Nat × Nat)} {t c k0 : Nat} (h6 : T6 num L) (hk0 : k0 < L.length) (hc : cd L k0 = c) (ht : num c 0 = t) (hinj : ∀ k, k < L.length → cd L k = c → k = k0) : brM num L (flt (pS num L t) L.length) none (some c) (flt (pS num L t) L.length).length = b2n (isBrk num L k0) := by
  unfold brM
  rw [tie (p := pS num L t) (Q := fun a b => isQ num L none (some c) a b), cnt_sumN, sumN_congr (g := fun k => if k = k0 then b2n (isBrk num L k0) else 0) L.length (fun k hk => ?_), sumN_pt, if_pos hk0]
  show b2n (pS num L t k && onL (fun a b => isQ num L none (some c) a b) k (lst (pS num L t) k)) = if k = k0 then b2n (isBrk num L k0) else 0
  by_cases he : k = k0
  · subst he
    rw [if_pos rfl]
    rcases pS_cases (t := t) h6 hk with hp | ⟨hp, hq⟩
    · have hs := sA_pS hp
      rw [hp, Bool.true_and]
      unfold isBrk
      rw [hs]
      cases lst (pS num L t) k with
      | none => rfl
      | some b =>
        show b2n (decide (num (cd L k) 1 < num (cd L b) 1) && (true && (cd L k == c))) = b2n (decide (num (cd L k) 1 < num (cd L b) 1))
        rw [beq_iff_eq.mpr hc, Bool.and_true, Bool.and_true]
    · rw [hp]
      rcases hq with hq | hq
      · rw [hc] at hq; exact absurd ht hq
      · unfold isBrk
        rw [hq]; rfl
  · rw [if_neg he]
    have hne : cd L k ≠ c := fun e => he (hinj k hk e)
    have hz : ∀ q, onL (fun a b => isQ num L none (some c) a b) k q = false := by
      intro q
      cases q with
      | none => rfl
      | some b =>
        show (decide (num (cd L k) 1 < num (cd L b) 1) && (true && (cd L k == c))) = false
        rw [beq_eq_false_iff_ne.mpr hne, Bool.and_false, Bool.and_false]
    rw [hz, Bool.and_false]; rfl
theorem brM_off {num : Nat → Nat → Nat} {L : List (Nat × Nat)} {t c : Nat} (hno : ∀ k, k < L.length → cd L k ≠ c) : brM num L (flt (pS num L t) L.length) none (some c) (flt (pS num L t) L.length).length = 0 := by
  unfold brM
  rw [tie (p := pS num L t) (Q := fun a b => isQ num L none (some c) a b), cnt_sumN, sumN_congr (g := fun _ => 0) L.length (fun k hk => ?_), sumN_zero]
  show b2n (pS num L t k && onL (fun a b => isQ num L none (some c) a b) k (lst (pS num L t) k)) = 0
  have hne := hno k hk
  have hz : ∀ q, onL (fun a b => isQ num L none (some c) a b) k q = false := by
    intro q
    cases q with
    | none => rfl
    | some b =>
      show (decide (num (cd L k) 1 < num (cd L b) 1) && (true && (cd L k == c))) = false
      rw [beq_eq_false_iff_ne.mpr hne, Bool.and_false, Bool.and_false]
  rw [hz, Bool.and_false]; rfl
theorem cnt_up {p : Nat → Bool} {k : Nat} : ∀ d, cnt p k ≤ cnt p (k + d)
  | 0 => Nat.le_refl _
  | d + 1 => by
    have := cnt_up (p := p) (k := k) d
    rw [← Nat.add_assoc, cnt]; omega
theorem cnt_uni {p : Nat → Bool} {i j : Nat} (hi : p i = true) (hj : p j = true) (h : cnt p i = cnt p j) : i = j := by
  rcases Nat.lt_trichotomy i j with q | q | q
  · have h1 := cnt_up (p := p) (k := i + 1) (j - (i + 1))
    rw [show i + 1 + (j - (i + 1)) = j by omega, cnt, if_pos hi] at h1; omega
  · exact q
  · have h1 := cnt_up (p := p) (k := j + 1) (i - (j + 1))
    rw [show j + 1 + (i - (j + 1)) = i by omega, cnt, if_pos hj] at h1; omega
theorem pre_pref {row : Nat → List Nat} {t : Nat} : ∀ d, ∃ X, pre row (t + d) = pre row t ++ X
  | 0 => ⟨[], (List.append_nil _).symm⟩
  | d + 1 => by
    obtain ⟨X, hX⟩ := pre_pref (row := row) (t := t) d
    refine ⟨X ++ (match (row ((t + d) / 6))[(t + d) % 6]? with
      | some c => [(c, t + d)]
      | none => []), ?_⟩
    rw [← List.append_assoc, ← hX]; rfl
section
variable {n : Nat} {num : Nat → Nat → Nat} {row : Nat → List Nat} {st : Nat → Nat} {s : Nat → Int32}
theorem pre_idx {sc p : Nat} (hO : rowOk n row) (hsc : sc < 16) (hp : p < (row sc).length) : (pre row (6 * sc + p)).length < (pre row 96).length ∧ cd (pre row 96) (pre row (6 * sc + p)).length = gd (row sc) p := by
  have h6 := hO.1 sc
  have hst := pre_step hO hp
  obtain ⟨X, hX⟩ := pre_pref (row := row) (t := 6 * sc + p + 1) (96 - (6 * sc + p + 1))
  rw [show 6 * sc + p + 1 + (96 - (6 * sc + p + 1)) = 96 by omega, hst] at hX
  rw [hX]
  refine ⟨by rw [List.length_append, List.length_append, List.length_singleton]; omega, ?_⟩
  rw [cd_l (by rw [List.length_append, List.length_singleton]; omega), cd_e]
end
theorem nn_ex {x : Int32} (h : (0 : Int32) ≤ x) : ∃ r : Nat, r < 2147483648 ∧ x = nI r := by
  rw [l0, Int32.le_iff_toInt_le, z_toInt (by omega)] at h
  have hx := Int32.toInt_lt x
  refine ⟨x.toInt.toNat, by omega, ?_⟩
  rw [← Int32.toInt_inj, z_toInt (by omega)]; omega
